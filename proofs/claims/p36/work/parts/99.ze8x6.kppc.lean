/-! THE CLASS'S nets kept by weeks: pieces (made by gwal9.py) -/
set_option maxRecDepth 200000 in
theorem ql_g42 : lgB 42 84 = true := by decide +kernel
theorem kpc_0 {e : Nat} {M M' : Mem} {v : Option Value} {x : Int32} (hS : SQ M) (H : Ev none e 15 0 [some (.ref 192), some (.int x), none] [] M v M' 0 0) : ((G_126 M x 0 20) = 0 ∧ v = none ∧ M' = M) ∨ (¬ ((G_126 M x 0 20) = 0) ∧ Ev none e 15 13 [some (.ref 192), some (.int x), some (.int 0)] [] M v M' 0 0) := by
  have H : Ev none e 15 4 [some (.ref 192), some (.int x), none] [.int 20, .int 0, .int x] M v M' 0 0 := Ev.back 3 (fun n => rfl) H
  obtain ⟨e1, rfl⟩ := Ev.dpos rfl rfl H
  obtain ⟨vK1, MK1, K1, H⟩ := Ev.callb (fun n => rfl) H
  obtain ⟨pK1, qK1⟩ := g_126 hS K1
  rw [pK1, qK1] at H
  have H : Ev none (e1 + 1) 15 7 [some (.ref 192), some (.int x), none] [.int (G_126 M x 0 20)] M v M' 0 0 := H
  have H : Ev none (e1 + 1) 15 (if (G_126 M x 0 20) = 0 then 10 else 11) [some (.ref 192), some (.int x), none] [] M v M' 0 0 := Ev.back 1 (fun n => rfl) H
  by_cases h2 : (G_126 M x 0 20) = 0
  · rw [if_pos h2] at H
    obtain ⟨z1, z2⟩ := Ev.retb (fun n => rfl) H
    exact Or.inl ⟨h2, z1, z2⟩
  · rw [if_neg h2] at H
    have H : Ev none (e1 + 1) 15 13 [some (.ref 192), some (.int x), some (.int 0)] [] M v M' 0 0 := Ev.back 2 (fun n => rfl) H
    have HF := H
    exact Or.inr (⟨h2, HF⟩)
theorem kpc_13 {e : Nat} {M M' : Mem} {v : Option Value} {x i : Int32} (hS : SQ M) (H : Ev none e 15 13 [some (.ref 192), some (.int x), some (.int i)] [] M v M' 0 0) : (4 ≤ i ∧ Ev none e 15 37 [some (.ref 192), some (.int x), some (.int 0)] [] M v M' 0 0) ∨ (¬ (4 ≤ i) ∧ (0 ≤ ((4 * x) + i).toInt ∧ ((4 * x) + i).toInt < 84) ∧ Ev none e 15 13 [some (.ref 192), some (.int x), some (.int (i + 1))] [] (wJ M 193 (((4 * x) + i).toNatClampNeg) 0) v M' 0 0) := by
  have H : Ev none e 15 (if 4 ≤ i then 35 else 18) [some (.ref 192), some (.int x), some (.int i)] [] M v M' 0 0 := Ev.back 3 (fun n => rfl) H
  by_cases h1 : 4 ≤ i
  · rw [if_pos h1] at H
    have H : Ev none e 15 37 [some (.ref 192), some (.int x), some (.int 0)] [] M v M' 0 0 := Ev.back 2 (fun n => rfl) H
    have HF := H
    exact Or.inl ⟨h1, HF⟩
  · rw [if_neg h1] at H
    have H : Ev none e 15 19 [some (.ref 192), some (.int x), some (.int i)] [.ref 192] M v M' 0 0 := Ev.back 1 (fun n => rfl) H
    have H : Ev none e 15 22 [some (.ref 192), some (.int x), some (.int i)] [.ref 193] M v M' 0 0 := Ev.back 1 (gs_3 rfl rfl (gf_u hS.1 qa_192 qr_41_0 qu_42 rfl)) H
    have H : Ev none e 15 28 [some (.ref 192), some (.int x), some (.int i)] [.long 0, .int ((4 * x) + i), .ref 193] M v M' 0 0 := Ev.back 6 (fun n => rfl) H
    obtain ⟨b2, H⟩ := Ev.las rfl rfl hS.1 qa_193 ql_g42 H
    obtain ⟨N3, eN3⟩ : ∃ N, N = (wJ M 193 (((4 * x) + i).toNatClampNeg) 0) := ⟨_, rfl⟩
    have hN3 : SQ N3 := by rw [eN3]; exact hS.kj
    have H : Ev none e 15 29 [some (.ref 192), some (.int x), some (.int i)] [] N3 v M' 0 0 := by rw [eN3]; exact H
    have H : Ev none e 15 13 [some (.ref 192), some (.int x), some (.int (i + 1))] [] N3 v M' 0 0 := Ev.back 2 (fun n => rfl) H
    have HF := H
    subst eN3
    exact Or.inr (⟨h1, b2, HF⟩)
theorem kpc_37 {e : Nat} {M M' : Mem} {v : Option Value} {x i : Int32} (hS : SQ M) (H : Ev none e 15 37 [some (.ref 192), some (.int x), some (.int i)] [] M v M' 0 0) : ((G_6 M (fR M 104 7)) ≤ i ∧ v = none ∧ M' = M) ∨ (¬ ((G_6 M (fR M 104 7)) ≤ i) ∧ (G_56 M i) = 0 ∧ Ev none e 15 37 [some (.ref 192), some (.int x), some (.int (i + 1))] [] M v M' 0 0) ∨ (¬ ((G_6 M (fR M 104 7)) ≤ i) ∧ ¬ ((G_56 M i) = 0) ∧ (0 ≤ ((4 * x) + (i >>> ((6 : Int32) &&& 31))).toInt ∧ ((4 * x) + (i >>> ((6 : Int32) &&& 31))).toInt < 84) ∧ (0 ≤ ((4 * x) + (i >>> ((6 : Int32) &&& 31))).toInt ∧ ((4 * x) + (i >>> ((6 : Int32) &&& 31))).toInt < 84) ∧ Ev none e 15 37 [some (.ref 192), some (.int x), some (.int (i + 1))] [] (wJ M 193 (((4 * x) + (i >>> ((6 : Int32) &&& 31))).toNatClampNeg) ((lJ M 193 (((4 * x) + (i >>> ((6 : Int32) &&& 31))).toNatClampNeg)) ||| (1 <<< ((i &&& 63 : Int32).toInt64 &&& 63)))) v M' 0 0) := by
  have H : Ev none e 15 39 [some (.ref 192), some (.int x), some (.int i)] [.ref 192, .int i] M v M' 0 0 := Ev.back 2 (fun n => rfl) H
  have H : Ev none e 15 42 [some (.ref 192), some (.int x), some (.int i)] [.ref 104, .int i] M v M' 0 0 := Ev.back 1 (gs_3 rfl rfl (gf_u hS.1 qa_192 qr_41_4 qu_22 rfl)) H
  have H : Ev none e 15 45 [some (.ref 192), some (.int x), some (.int i)] [.ref (fR M 104 7), .int i] M v M' 0 0 := Ev.back 1 (gs_3 rfl rfl (gf_r hS.1 qa_104 qr_22_7 rfl)) H
  obtain ⟨e1, rfl⟩ := Ev.dpos rfl rfl H
  obtain ⟨vK1, MK1, K1, H⟩ := Ev.callb (fun n_ => gs_7 rfl rfl (show gCal (.invokevirtual 41) 2 (.ref (fR M 104 7) :: [.int i]) M = some (.inr (6, [some (.ref (fR M 104 7))], [.int i])) from by show @cond (Option ((List Value × Mem) ⊕ (Nat × Lo × List Value))) (true && gRecv M (.ref (fR M 104 7)) 1 && gRoom [.int i] && true) (some (.inr (6, [some (.ref (fR M 104 7))], [.int i]))) none = _; rw [recv_s hS.1 (hS.1.fr qa_104 qr_22_7).2 qo_8]; rfl)) H
  obtain ⟨pK1, qK1⟩ := g_6 hS (hS.1.fr qa_104 qr_22_7).2 K1
  rw [pK1, qK1] at H
  have H : Ev none (e1 + 1) 15 48 [some (.ref 192), some (.int x), some (.int i)] [.int (G_6 M (fR M 104 7)), .int i] M v M' 0 0 := H
  have H : Ev none (e1 + 1) 15 (if (G_6 M (fR M 104 7)) ≤ i then 90 else 51) [some (.ref 192), some (.int x), some (.int i)] [] M v M' 0 0 := Ev.back 1 (fun n => rfl) H
  by_cases h2 : (G_6 M (fR M 104 7)) ≤ i
  · rw [if_pos h2] at H
    obtain ⟨z1, z2⟩ := Ev.retb (fun n => rfl) H
    exact Or.inl ⟨h2, z1, z2⟩
  · rw [if_neg h2] at H
    have H : Ev none (e1 + 1) 15 52 [some (.ref 192), some (.int x), some (.int i)] [.ref 192] M v M' 0 0 := Ev.back 1 (fun n => rfl) H
    have H : Ev none (e1 + 1) 15 55 [some (.ref 192), some (.int x), some (.int i)] [.ref 104] M v M' 0 0 := Ev.back 1 (gs_3 rfl rfl (gf_u hS.1 qa_192 qr_41_4 qu_22 rfl)) H
    have H : Ev none (e1 + 1) 15 56 [some (.ref 192), some (.int x), some (.int i)] [.int i, .ref 104] M v M' 0 0 := Ev.back 1 (fun n => rfl) H
    obtain ⟨vK3, MK3, K3, H⟩ := Ev.callb (fun n_ => gs_7 rfl rfl (show gCal (.invokevirtual 47) 2 (.int i :: .ref 104 :: []) M = some (.inr (56, [some (.ref 104), some (.int i)], [])) from by show @cond (Option ((List Value × Mem) ⊕ (Nat × Lo × List Value))) (true && gRecv M (.ref 104) 7 && gRoom [] && true) (some (.inr (56, [some (.ref 104), some (.int i)], []))) none = _; rw [recv_s hS.1 qa_104 qo_22]; rfl)) H
    obtain ⟨pK3, qK3⟩ := g_56 hS K3
    rw [pK3, qK3] at H
    have H : Ev none (e1 + 1) 15 59 [some (.ref 192), some (.int x), some (.int i)] [.int (G_56 M i)] M v M' 0 0 := H
    have H : Ev none (e1 + 1) 15 (if (G_56 M i) = 0 then 84 else 62) [some (.ref 192), some (.int x), some (.int i)] [] M v M' 0 0 := Ev.back 1 (fun n => rfl) H
    by_cases h4 : (G_56 M i) = 0
    · rw [if_pos h4] at H
      have H : Ev none (e1 + 1) 15 37 [some (.ref 192), some (.int x), some (.int (i + 1))] [] M v M' 0 0 := Ev.back 2 (fun n => rfl) H
      have HF := H
      exact Or.inr (Or.inl ⟨h2, h4, HF⟩)
    · rw [if_neg h4] at H
      have H : Ev none (e1 + 1) 15 63 [some (.ref 192), some (.int x), some (.int i)] [.ref 192] M v M' 0 0 := Ev.back 1 (fun n => rfl) H
      have H : Ev none (e1 + 1) 15 66 [some (.ref 192), some (.int x), some (.int i)] [.ref 193] M v M' 0 0 := Ev.back 1 (gs_3 rfl rfl (gf_u hS.1 qa_192 qr_41_0 qu_42 rfl)) H
      have H : Ev none (e1 + 1) 15 75 [some (.ref 192), some (.int x), some (.int i)] [.int ((4 * x) + (i >>> ((6 : Int32) &&& 31))), .ref 193, .int ((4 * x) + (i >>> ((6 : Int32) &&& 31))), .ref 193] M v M' 0 0 := Ev.back 8 (fun n => rfl) H
      obtain ⟨b5, H⟩ := Ev.lal rfl rfl hS.1 qa_193 ql_g42 H
      have H : Ev none (e1 + 1) 15 76 [some (.ref 192), some (.int x), some (.int i)] [.long (lJ M 193 (((4 * x) + (i >>> ((6 : Int32) &&& 31))).toNatClampNeg)), .int ((4 * x) + (i >>> ((6 : Int32) &&& 31))), .ref 193] M v M' 0 0 := H
      have H : Ev none (e1 + 1) 15 83 [some (.ref 192), some (.int x), some (.int i)] [.long ((lJ M 193 (((4 * x) + (i >>> ((6 : Int32) &&& 31))).toNatClampNeg)) ||| (1 <<< ((i &&& 63 : Int32).toInt64 &&& 63))), .int ((4 * x) + (i >>> ((6 : Int32) &&& 31))), .ref 193] M v M' 0 0 := Ev.back 6 (fun n => rfl) H
      obtain ⟨b6, H⟩ := Ev.las rfl rfl hS.1 qa_193 ql_g42 H
      obtain ⟨N7, eN7⟩ : ∃ N, N = (wJ M 193 (((4 * x) + (i >>> ((6 : Int32) &&& 31))).toNatClampNeg) ((lJ M 193 (((4 * x) + (i >>> ((6 : Int32) &&& 31))).toNatClampNeg)) ||| (1 <<< ((i &&& 63 : Int32).toInt64 &&& 63)))) := ⟨_, rfl⟩
      have hN7 : SQ N7 := by rw [eN7]; exact hS.kj
      have H : Ev none (e1 + 1) 15 84 [some (.ref 192), some (.int x), some (.int i)] [] N7 v M' 0 0 := by rw [eN7]; exact H
      have H : Ev none (e1 + 1) 15 37 [some (.ref 192), some (.int x), some (.int (i + 1))] [] N7 v M' 0 0 := Ev.back 2 (fun n => rfl) H
      have HF := H
      subst eN7
      exact Or.inr (Or.inr (⟨h2, h4, b5, b6, HF⟩))
theorem szc_0 {e : Nat} {M M' : Mem} {v : Option Value} {x : Int32} (hS : SQ M) (H : Ev none e 16 0 [some (.ref 192), some (.int x), none, none] [] M v M' 0 0) : Ev none e 16 4 [some (.ref 192), some (.int x), some (.int 0), some (.int 0)] [] M v M' 0 0 := by
  have H : Ev none e 16 4 [some (.ref 192), some (.int x), some (.int 0), some (.int 0)] [] M v M' 0 0 := Ev.back 4 (fun n => rfl) H
  have HF := H
  exact HF
theorem szc_4 {e : Nat} {M M' : Mem} {v : Option Value} {x s i : Int32} (hS : SQ M) (H : Ev none e 16 4 [some (.ref 192), some (.int x), some (.int s), some (.int i)] [] M v M' 0 0) : (4 ≤ i ∧ v = some (.int s) ∧ M' = M) ∨ (¬ (4 ≤ i) ∧ (0 ≤ ((4 * x) + i).toInt ∧ ((4 * x) + i).toInt < 84) ∧ (∃ e1 v1 M1, e = e1 + 1 ∧ Ev none e1 249 0 [some (.long (lJ M 193 (((4 * x) + i).toNatClampNeg))), none] [] M v1 M1 0 0 ∧ Ev none e 16 23 [some (.ref 192), some (.int x), some (.int s), some (.int i)] (v1.toList ++ [.int s]) M1 v M' 0 0)) := by
  have H : Ev none e 16 (if 4 ≤ i then 31 else 9) [some (.ref 192), some (.int x), some (.int s), some (.int i)] [] M v M' 0 0 := Ev.back 3 (fun n => rfl) H
  by_cases h1 : 4 ≤ i
  · rw [if_pos h1] at H
    have H : Ev none e 16 32 [some (.ref 192), some (.int x), some (.int s), some (.int i)] [.int s] M v M' 0 0 := Ev.back 1 (fun n => rfl) H
    obtain ⟨z1, z2⟩ := Ev.retz rfl rfl H
    exact Or.inl ⟨h1, z1, z2⟩
  · rw [if_neg h1] at H
    have H : Ev none e 16 11 [some (.ref 192), some (.int x), some (.int s), some (.int i)] [.ref 192, .int s] M v M' 0 0 := Ev.back 2 (fun n => rfl) H
    have H : Ev none e 16 14 [some (.ref 192), some (.int x), some (.int s), some (.int i)] [.ref 193, .int s] M v M' 0 0 := Ev.back 1 (gs_3 rfl rfl (gf_u hS.1 qa_192 qr_41_0 qu_42 rfl)) H
    have H : Ev none e 16 19 [some (.ref 192), some (.int x), some (.int s), some (.int i)] [.int ((4 * x) + i), .ref 193, .int s] M v M' 0 0 := Ev.back 5 (fun n => rfl) H
    obtain ⟨b2, H⟩ := Ev.lal rfl rfl hS.1 qa_193 ql_g42 H
    have H : Ev none e 16 20 [some (.ref 192), some (.int x), some (.int s), some (.int i)] [.long (lJ M 193 (((4 * x) + i).toNatClampNeg)), .int s] M v M' 0 0 := H
    obtain ⟨e1, rfl⟩ := Ev.dpos rfl rfl H
    obtain ⟨vK3, MK3, K3, H⟩ := Ev.callb (fun n => rfl) H
    have K3 : Ev none e1 249 0 [some (.long (lJ M 193 (((4 * x) + i).toNatClampNeg))), none] [] M vK3 MK3 0 0 := K3
    have HF := H
    exact Or.inr (⟨h1, b2, ⟨e1, vK3, MK3, rfl, K3, HF⟩⟩)
theorem szc_23 {e : Nat} {M M' : Mem} {v : Option Value} {x s i r : Int32} (hS : SQ M) (H : Ev none e 16 23 [some (.ref 192), some (.int x), some (.int s), some (.int i)] [.int r, .int s] M v M' 0 0) : Ev none e 16 4 [some (.ref 192), some (.int x), some (.int (s + r)), some (.int (i + 1))] [] M v M' 0 0 := by
  have H : Ev none e 16 4 [some (.ref 192), some (.int x), some (.int (s + r)), some (.int (i + 1))] [] M v M' 0 0 := Ev.back 4 (fun n => rfl) H
  have HF := H
  exact HF
theorem alc_0 {e : Nat} {M M' : Mem} {v : Option Value} {x y : Int32} (hS : SQ M) (H : Ev none e 17 0 [some (.ref 192), some (.int x), some (.int y), none, none] [] M v M' 0 0) : Ev none e 17 5 [some (.ref 192), some (.int x), some (.int y), some (.int 0), some (.int 0)] [] M v M' 0 0 := by
  have H : Ev none e 17 5 [some (.ref 192), some (.int x), some (.int y), some (.int 0), some (.int 0)] [] M v M' 0 0 := Ev.back 4 (fun n => rfl) H
  have HF := H
  exact HF
theorem alc_5 {e : Nat} {M M' : Mem} {v : Option Value} {x y s i : Int32} (hS : SQ M) (H : Ev none e 17 5 [some (.ref 192), some (.int x), some (.int y), some (.int s), some (.int i)] [] M v M' 0 0) : (4 ≤ i ∧ v = some (.int s) ∧ M' = M) ∨ (¬ (4 ≤ i) ∧ (0 ≤ ((4 * x) + i).toInt ∧ ((4 * x) + i).toInt < 84) ∧ (0 ≤ ((4 * y) + i).toInt ∧ ((4 * y) + i).toInt < 84) ∧ (∃ e1 v1 M1, e = e1 + 1 ∧ Ev none e1 249 0 [some (.long ((lJ M 193 (((4 * x) + i).toNatClampNeg)) &&& ((lJ M 193 (((4 * y) + i).toNatClampNeg)) ^^^ (-1)))), none] [] M v1 M1 0 0 ∧ Ev none e 17 42 [some (.ref 192), some (.int x), some (.int y), some (.int s), some (.int i)] (v1.toList ++ [.int s]) M1 v M' 0 0)) := by
  have H : Ev none e 17 (if 4 ≤ i then 50 else 11) [some (.ref 192), some (.int x), some (.int y), some (.int s), some (.int i)] [] M v M' 0 0 := Ev.back 3 (fun n => rfl) H
  by_cases h1 : 4 ≤ i
  · rw [if_pos h1] at H
    have H : Ev none e 17 51 [some (.ref 192), some (.int x), some (.int y), some (.int s), some (.int i)] [.int s] M v M' 0 0 := Ev.back 1 (fun n => rfl) H
    obtain ⟨z1, z2⟩ := Ev.retz rfl rfl H
    exact Or.inl ⟨h1, z1, z2⟩
  · rw [if_neg h1] at H
    have H : Ev none e 17 13 [some (.ref 192), some (.int x), some (.int y), some (.int s), some (.int i)] [.ref 192, .int s] M v M' 0 0 := Ev.back 2 (fun n => rfl) H
    have H : Ev none e 17 16 [some (.ref 192), some (.int x), some (.int y), some (.int s), some (.int i)] [.ref 193, .int s] M v M' 0 0 := Ev.back 1 (gs_3 rfl rfl (gf_u hS.1 qa_192 qr_41_0 qu_42 rfl)) H
    have H : Ev none e 17 22 [some (.ref 192), some (.int x), some (.int y), some (.int s), some (.int i)] [.int ((4 * x) + i), .ref 193, .int s] M v M' 0 0 := Ev.back 5 (fun n => rfl) H
    obtain ⟨b2, H⟩ := Ev.lal rfl rfl hS.1 qa_193 ql_g42 H
    have H : Ev none e 17 23 [some (.ref 192), some (.int x), some (.int y), some (.int s), some (.int i)] [.long (lJ M 193 (((4 * x) + i).toNatClampNeg)), .int s] M v M' 0 0 := H
    have H : Ev none e 17 24 [some (.ref 192), some (.int x), some (.int y), some (.int s), some (.int i)] [.ref 192, .long (lJ M 193 (((4 * x) + i).toNatClampNeg)), .int s] M v M' 0 0 := Ev.back 1 (fun n => rfl) H
    have H : Ev none e 17 27 [some (.ref 192), some (.int x), some (.int y), some (.int s), some (.int i)] [.ref 193, .long (lJ M 193 (((4 * x) + i).toNatClampNeg)), .int s] M v M' 0 0 := Ev.back 1 (gs_3 rfl rfl (gf_u hS.1 qa_192 qr_41_0 qu_42 rfl)) H
    have H : Ev none e 17 33 [some (.ref 192), some (.int x), some (.int y), some (.int s), some (.int i)] [.int ((4 * y) + i), .ref 193, .long (lJ M 193 (((4 * x) + i).toNatClampNeg)), .int s] M v M' 0 0 := Ev.back 5 (fun n => rfl) H
    obtain ⟨b3, H⟩ := Ev.lal rfl rfl hS.1 qa_193 ql_g42 H
    have H : Ev none e 17 34 [some (.ref 192), some (.int x), some (.int y), some (.int s), some (.int i)] [.long (lJ M 193 (((4 * y) + i).toNatClampNeg)), .long (lJ M 193 (((4 * x) + i).toNatClampNeg)), .int s] M v M' 0 0 := H
    have H : Ev none e 17 39 [some (.ref 192), some (.int x), some (.int y), some (.int s), some (.int i)] [.long ((lJ M 193 (((4 * x) + i).toNatClampNeg)) &&& ((lJ M 193 (((4 * y) + i).toNatClampNeg)) ^^^ (-1))), .int s] M v M' 0 0 := Ev.back 3 (fun n => rfl) H
    obtain ⟨e1, rfl⟩ := Ev.dpos rfl rfl H
    obtain ⟨vK4, MK4, K4, H⟩ := Ev.callb (fun n => rfl) H
    have K4 : Ev none e1 249 0 [some (.long ((lJ M 193 (((4 * x) + i).toNatClampNeg)) &&& ((lJ M 193 (((4 * y) + i).toNatClampNeg)) ^^^ (-1)))), none] [] M vK4 MK4 0 0 := K4
    have HF := H
    exact Or.inr (⟨h1, b2, b3, ⟨e1, vK4, MK4, rfl, K4, HF⟩⟩)
theorem alc_42 {e : Nat} {M M' : Mem} {v : Option Value} {x y s i r : Int32} (hS : SQ M) (H : Ev none e 17 42 [some (.ref 192), some (.int x), some (.int y), some (.int s), some (.int i)] [.int r, .int s] M v M' 0 0) : Ev none e 17 5 [some (.ref 192), some (.int x), some (.int y), some (.int (s + r)), some (.int (i + 1))] [] M v M' 0 0 := by
  have H : Ev none e 17 5 [some (.ref 192), some (.int x), some (.int y), some (.int (s + r)), some (.int (i + 1))] [] M v M' 0 0 := Ev.back 4 (fun n => rfl) H
  have HF := H
  exact HF
theorem btc_0 {e : Nat} {M M' : Mem} {v : Option Value} {x : Int64} (hS : SQ M) (H : Ev none e 249 0 [some (.long x), none] [] M v M' 0 0) : Ev none e 249 10 [some (.long (x - (((x.toUInt64 >>> ((1 : Int32).toInt64.toUInt64 &&& Int64.toUInt64 63)).toInt64) &&& 6148914691236517205))), none] [] M v M' 0 0 := by
  have H : Ev none e 249 10 [some (.long (x - (((x.toUInt64 >>> ((1 : Int32).toInt64.toUInt64 &&& Int64.toUInt64 63)).toInt64) &&& 6148914691236517205))), none] [] M v M' 0 0 := Ev.back 8 (fun n => rfl) H
  have HF := H
  exact HF
theorem btc_10 {e : Nat} {M M' : Mem} {v : Option Value} {x : Int64} (hS : SQ M) (H : Ev none e 249 10 [some (.long x), none] [] M v M' 0 0) : Ev none e 249 24 [some (.long ((x &&& 3689348814741910323) + (((x.toUInt64 >>> ((2 : Int32).toInt64.toUInt64 &&& Int64.toUInt64 63)).toInt64) &&& 3689348814741910323))), none] [] M v M' 0 0 := by
  have H : Ev none e 249 24 [some (.long ((x &&& 3689348814741910323) + (((x.toUInt64 >>> ((2 : Int32).toInt64.toUInt64 &&& Int64.toUInt64 63)).toInt64) &&& 3689348814741910323))), none] [] M v M' 0 0 := Ev.back 10 (fun n => rfl) H
  have HF := H
  exact HF
theorem btc_24 {e : Nat} {M M' : Mem} {v : Option Value} {x : Int64} (hS : SQ M) (H : Ev none e 249 24 [some (.long x), none] [] M v M' 0 0) : Ev none e 249 34 [some (.long ((x + ((x.toUInt64 >>> ((4 : Int32).toInt64.toUInt64 &&& Int64.toUInt64 63)).toInt64)) &&& 1085102592571150095)), none] [] M v M' 0 0 := by
  have H : Ev none e 249 34 [some (.long ((x + ((x.toUInt64 >>> ((4 : Int32).toInt64.toUInt64 &&& Int64.toUInt64 63)).toInt64)) &&& 1085102592571150095)), none] [] M v M' 0 0 := Ev.back 8 (fun n => rfl) H
  have HF := H
  exact HF
theorem btc_34 {e : Nat} {M M' : Mem} {v : Option Value} {x : Int64} (hS : SQ M) (H : Ev none e 249 34 [some (.long x), none] [] M v M' 0 0) : Ev none e 249 41 [some (.long (x + ((x.toUInt64 >>> ((8 : Int32).toInt64.toUInt64 &&& Int64.toUInt64 63)).toInt64))), none] [] M v M' 0 0 := by
  have H : Ev none e 249 41 [some (.long (x + ((x.toUInt64 >>> ((8 : Int32).toInt64.toUInt64 &&& Int64.toUInt64 63)).toInt64))), none] [] M v M' 0 0 := Ev.back 6 (fun n => rfl) H
  have HF := H
  exact HF
theorem btc_41 {e : Nat} {M M' : Mem} {v : Option Value} {x : Int64} (hS : SQ M) (H : Ev none e 249 41 [some (.long x), none] [] M v M' 0 0) : Ev none e 249 48 [some (.long (x + ((x.toUInt64 >>> ((16 : Int32).toInt64.toUInt64 &&& Int64.toUInt64 63)).toInt64))), none] [] M v M' 0 0 := by
  have H : Ev none e 249 48 [some (.long (x + ((x.toUInt64 >>> ((16 : Int32).toInt64.toUInt64 &&& Int64.toUInt64 63)).toInt64))), none] [] M v M' 0 0 := Ev.back 6 (fun n => rfl) H
  have HF := H
  exact HF
theorem btc_48 {e : Nat} {M M' : Mem} {v : Option Value} {x : Int64} (hS : SQ M) (H : Ev none e 249 48 [some (.long x), none] [] M v M' 0 0) : Ev none e 249 55 [some (.long (x + ((x.toUInt64 >>> ((32 : Int32).toInt64.toUInt64 &&& Int64.toUInt64 63)).toInt64))), none] [] M v M' 0 0 := by
  have H : Ev none e 249 55 [some (.long (x + ((x.toUInt64 >>> ((32 : Int32).toInt64.toUInt64 &&& Int64.toUInt64 63)).toInt64))), none] [] M v M' 0 0 := Ev.back 6 (fun n => rfl) H
  have HF := H
  exact HF
theorem btc_55 {e : Nat} {M M' : Mem} {v : Option Value} {x : Int64} (hS : SQ M) (H : Ev none e 249 55 [some (.long x), none] [] M v M' 0 0) : v = some (.int (x.toInt32 &&& 127)) ∧ M' = M := by
  have H : Ev none e 249 60 [some (.long x), none] [.int (x.toInt32 &&& 127)] M v M' 0 0 := Ev.back 4 (fun n => rfl) H
  obtain ⟨z1, z2⟩ := Ev.retz rfl rfl H
  exact ⟨z1, z2⟩
/-! HOW MANY BITS: the library's bitCount -/
noncomputable def bqN (x : Int64) : Nat := x.toBitVec.toNat
def ctW (f : Nat → Bool) : Nat → Nat → Nat
  | 0, _ => 0
  | r + 1, i => (if f i = true then 1 else 0) + ctW f r (i + 1)
section BTC
variable {e n k i m : Nat} {M M' : Mem} {v : Option Value} {x y : Int64} {u : UInt64}
theorem bqN_lt : bqN x < 18446744073709551616 := x.toBitVec.isLt
theorem bqN_sub (h : bqN y ≤ bqN x) : bqN (x - y) = bqN x - bqN y := by
  unfold bqN at h ⊢
  rw [Int64.toBitVec_sub]
  exact BitVec.toNat_sub_of_le h
theorem bqN_add (h : bqN x + bqN y < 18446744073709551616) : bqN (x + y) = bqN x + bqN y := by
  unfold bqN at h ⊢
  rw [Int64.toBitVec_add, BitVec.toNat_add]
  exact Nat.mod_eq_of_lt h
theorem bqN_and : bqN (x &&& y) = bqN x &&& bqN y := by
  unfold bqN
  rw [Int64.toBitVec_and, BitVec.toNat_and]
theorem bqN_shr (h : (u.toBitVec % 64).toNat = k) : bqN ((x.toUInt64 >>> u).toInt64) = bqN x / 2 ^ k := by
  show ((x.toUInt64 >>> u).toBitVec).toNat = _
  rw [UInt64.toBitVec_shiftRight]
  show (x.toUInt64.toBitVec >>> (u.toBitVec % 64).toNat).toNat = _
  rw [h, BitVec.toNat_ushiftRight, Nat.shiftRight_eq_div_pow]
  rfl
theorem sh_1 : (((1 : Int32).toInt64.toUInt64 &&& Int64.toUInt64 63).toBitVec % 64).toNat = 1 := by decide
theorem sh_2 : (((2 : Int32).toInt64.toUInt64 &&& Int64.toUInt64 63).toBitVec % 64).toNat = 2 := by decide
theorem sh_4 : (((4 : Int32).toInt64.toUInt64 &&& Int64.toUInt64 63).toBitVec % 64).toNat = 4 := by decide
theorem sh_8 : (((8 : Int32).toInt64.toUInt64 &&& Int64.toUInt64 63).toBitVec % 64).toNat = 8 := by decide
theorem sh_16 : (((16 : Int32).toInt64.toUInt64 &&& Int64.toUInt64 63).toBitVec % 64).toNat = 16 := by decide
theorem sh_32 : (((32 : Int32).toInt64.toUInt64 &&& Int64.toUInt64 63).toBitVec % 64).toNat = 32 := by decide
theorem tm_1 : bqN 6148914691236517205 = mk1 32 := by decide +kernel
theorem tm_2 : bqN 3689348814741910323 = mk2 16 := by decide +kernel
theorem tm_4 : bqN 1085102592571150095 = mk4 8 := by decide +kernel
theorem bqN_127 : (x.toInt32 &&& 127).toInt = ((bqN x % 128 : Nat) : Int) := by
  have e : (x.toInt32 &&& 127).toBitVec.toNat = bqN x % 128 := by
    rw [Int32.toBitVec_and, BitVec.toNat_and]
    have h1 : x.toInt32.toBitVec.toNat = bqN x % 4294967296 := by
      show (x.toBitVec.signExtend 32).toNat = _
      rw [BitVec.signExtend_eq_setWidth_of_le _ (by decide), BitVec.toNat_setWidth]
      rfl
    have h2 : (127 : Int32).toBitVec.toNat = 2 ^ 7 - 1 := by decide
    rw [h1, h2, Nat.and_two_pow_sub_one_eq_mod]
    omega
  show (x.toInt32 &&& 127).toBitVec.toInt = _
  rw [BitVec.toInt_eq_toNat_of_lt (by rw [e]; omega), e]
theorem p2_le : ∀ k m, 15 * p2 k m + 6 ≤ 6 * 16 ^ k := by
  intro k
  induction k with
  | zero => intro m; exact Nat.le_refl _
  | succ k ih =>
    intro m
    have q := ih (m / 16)
    unfold p2
    rw [Nat.pow_succ]
    omega
theorem p4_le : ∀ k m, 255 * p4 k m + 30 ≤ 30 * 256 ^ k := by
  intro k
  induction k with
  | zero => intro m; exact Nat.le_refl _
  | succ k ih =>
    intro m
    have q := ih (m / 256)
    unfold p4
    rw [Nat.pow_succ]
    omega
theorem p4_dig : ∀ k m i, p4 k m / 256 ^ i % 256 ≤ 30 := by
  intro k
  induction k with
  | zero =>
    intro m i
    show 0 / 256 ^ i % 256 ≤ 30
    rw [Nat.zero_div]
    decide
  | succ k ih =>
    intro m i
    cases i with
    | zero =>
      unfold p4
      rw [Nat.pow_zero, Nat.div_one]
      omega
    | succ i =>
      have q := ih (m / 256) i
      have h : p4 (k + 1) m / 256 ^ (i + 1) = p4 k (m / 256) / 256 ^ i := by
        rw [Nat.pow_succ, Nat.mul_comm, ← Nat.div_div_eq_div_mul]
        have h2 : p4 (k + 1) m / 256 = p4 k (m / 256) := by
          show (m % 16 + m / 16 % 16 + 256 * p4 k (m / 256)) / 256 = _
          omega
        rw [h2]
      rw [h]
      exact q
theorem sb1_le : ∀ k n, sb1 k n ≤ k := by
  intro k
  induction k with
  | zero => intro n; exact Nat.le_refl _
  | succ k ih =>
    intro n
    have q := ih (n / 2)
    unfold sb1
    omega
theorem sb1_ct : ∀ k n i, sb1 k n = ctW (fun b => n.testBit (b - i)) k i := by
  intro k
  induction k with
  | zero => intro n i; rfl
  | succ k ih =>
    intro n i
    unfold sb1 ctW
    try dsimp only
    rw [Nat.sub_self, Nat.testBit_zero, ih (n / 2) (i + 1)]
    have h : ∀ r j, i + 1 ≤ j → ctW (fun b => (n / 2).testBit (b - (i + 1))) r j = ctW (fun b => n.testBit (b - i)) r j := by
      intro r
      induction r with
      | zero => intro j _; rfl
      | succ r ih2 =>
        intro j hj
        unfold ctW
        try dsimp only
        rw [ih2 (j + 1) (by omega)]
        have e : n.testBit (j - i) = (n / 2).testBit (j - (i + 1)) := by
          have e2 : j - i = (j - (i + 1)) + 1 := by omega
          rw [e2, Nat.testBit_succ]
        rw [e]
    rw [h k (i + 1) (Nat.le_refl _)]
    rcases Nat.mod_two_eq_zero_or_one n with q | q
    · rw [q]; rfl
    · rw [q]; rfl
theorem btc_ok (hS : SQ M) (H : Ev none e 249 0 [some (.long x), none] [] M v M' 0 0) : M' = M ∧ ∃ r : Int32, v = some (.int r) ∧ r.toInt = ((sb1 64 (bqN x) : Nat) : Int) := by
  have hn := bqN_lt (x := x)
  have H := btc_0 hS H
  obtain ⟨x1, e1⟩ : ∃ x1, x1 = x - ((x.toUInt64 >>> ((1 : Int32).toInt64.toUInt64 &&& Int64.toUInt64 63)).toInt64 &&& 6148914691236517205) := ⟨_, rfl⟩
  rw [← e1] at H
  have a1 : bqN ((x.toUInt64 >>> ((1 : Int32).toInt64.toUInt64 &&& Int64.toUInt64 63)).toInt64 &&& 6148914691236517205) = o1 32 (bqN x) := by
    rw [bqN_and, bqN_shr sh_1, tm_1]
    exact and_m1 32 (bqN x)
  have w4 : (4 : Nat) ^ 32 = 18446744073709551616 := by decide
  have t1 : bqN x1 = p1 32 (bqN x) := by
    rw [e1, bqN_sub (by rw [a1]; exact o1_le 32 (bqN x)), a1]
    exact o1_p1 32 (bqN x) (by rw [w4]; exact hn)
  have H := btc_10 hS H
  obtain ⟨x2, e2'⟩ : ∃ x2, x2 = (x1 &&& 3689348814741910323) + ((x1.toUInt64 >>> ((2 : Int32).toInt64.toUInt64 &&& Int64.toUInt64 63)).toInt64 &&& 3689348814741910323) := ⟨_, rfl⟩
  rw [← e2'] at H
  have l2 := p2_le 16 (bqN x1)
  have w16 : (16 : Nat) ^ 16 = 18446744073709551616 := by decide
  rw [w16] at l2
  have b1 : bqN (x1 &&& 3689348814741910323) = e2 16 (bqN x1) := by
    rw [bqN_and, tm_2]
    exact and_m2 16 (bqN x1)
  have b2 : bqN ((x1.toUInt64 >>> ((2 : Int32).toInt64.toUInt64 &&& Int64.toUInt64 63)).toInt64 &&& 3689348814741910323) = e2 16 (bqN x1 / 4) := by
    rw [bqN_and, bqN_shr sh_2, tm_2]
    exact and_m2 16 _
  have b3 := e2_p2 16 (bqN x1)
  have t2 : bqN x2 = p2 16 (bqN x1) := by
    rw [e2', bqN_add (by rw [b1, b2, b3]; omega), b1, b2, b3]
  have H := btc_24 hS H
  obtain ⟨x3, e3⟩ : ∃ x3, x3 = (x2 + (x2.toUInt64 >>> ((4 : Int32).toInt64.toUInt64 &&& Int64.toUInt64 63)).toInt64) &&& 1085102592571150095 := ⟨_, rfl⟩
  rw [← e3] at H
  have c1 : bqN ((x2.toUInt64 >>> ((4 : Int32).toInt64.toUInt64 &&& Int64.toUInt64 63)).toInt64) = bqN x2 / 16 := bqN_shr sh_4
  have t3 : bqN x3 = p4 8 (p2 16 (bqN x1)) := by
    rw [e3, bqN_and, tm_4, bqN_add (by rw [c1, t2]; omega), c1, t2]
    exact (and_m4 8 _).trans (e4_p4 8 _ (nb6_p2 8 (bqN x1)))
  have l3 := p4_le 8 (p2 16 (bqN x1))
  have w8 : (256 : Nat) ^ 8 = 18446744073709551616 := by decide
  rw [w8, ← t3] at l3
  have H := btc_34 hS H
  obtain ⟨x4, e4'⟩ : ∃ x4, x4 = x3 + (x3.toUInt64 >>> ((8 : Int32).toInt64.toUInt64 &&& Int64.toUInt64 63)).toInt64 := ⟨_, rfl⟩
  rw [← e4'] at H
  have d1 : bqN ((x3.toUInt64 >>> ((8 : Int32).toInt64.toUInt64 &&& Int64.toUInt64 63)).toInt64) = bqN x3 / 256 := bqN_shr sh_8
  have t4 : bqN x4 = bqN x3 + bqN x3 / 256 := by rw [e4', bqN_add (by rw [d1]; omega), d1]
  have H := btc_41 hS H
  obtain ⟨x5, e5⟩ : ∃ x5, x5 = x4 + (x4.toUInt64 >>> ((16 : Int32).toInt64.toUInt64 &&& Int64.toUInt64 63)).toInt64 := ⟨_, rfl⟩
  rw [← e5] at H
  have d2 : bqN ((x4.toUInt64 >>> ((16 : Int32).toInt64.toUInt64 &&& Int64.toUInt64 63)).toInt64) = bqN x4 / 65536 := bqN_shr sh_16
  have t5 : bqN x5 = bqN x4 + bqN x4 / 65536 := by rw [e5, bqN_add (by rw [d2]; omega), d2]
  have H := btc_48 hS H
  obtain ⟨x6, e6⟩ : ∃ x6, x6 = x5 + (x5.toUInt64 >>> ((32 : Int32).toInt64.toUInt64 &&& Int64.toUInt64 63)).toInt64 := ⟨_, rfl⟩
  rw [← e6] at H
  have d3 : bqN ((x5.toUInt64 >>> ((32 : Int32).toInt64.toUInt64 &&& Int64.toUInt64 63)).toInt64) = bqN x5 / 4294967296 := bqN_shr sh_32
  have t6 : bqN x6 = bqN x5 + bqN x5 / 4294967296 := by rw [e6, bqN_add (by rw [d3]; omega), d3]
  obtain ⟨r1, r2⟩ := btc_55 hS H
  refine ⟨r2, _, r1, ?_⟩
  rw [bqN_127]
  have s8 := sb8_end (n := bqN x3) bqN_lt (fun i _ => by rw [t3]; exact p4_dig 8 _ i)
  have ss : sb8 8 (bqN x3) = sb1 64 (bqN x) := by
    have q1 := sb8_p4 8 (p2 16 (bqN x1))
    have q2 := sb4_p2 16 (bqN x1)
    have q3 := sb2_p1 32 (bqN x)
    rw [t1] at q1 q2 t3
    rw [t3]
    exact (q1.trans q2).trans q3
  have l64 := sb1_le 64 (bqN x)
  rw [ss, ← t4, ← t5, ← t6] at s8
  revert s8 l64
  generalize sb1 64 (bqN x) = u
  generalize bqN x6 = w
  intro s8 l64
  have e : w % 128 = u := by omega
  rw [e]
end BTC
/-! THE CLASS'S nets kept by weeks -/
/-- what is kept of a week -/
def KW (M : Mem) (x : Nat) (f : Nat → Bool) : Prop := ∀ j b, j < 4 → b < 64 → (bqN (lJ M 193 (4 * x + j))).testBit b = f (64 * j + b)
noncomputable def nwB (T : TS) (P : PK) (c : Nat) : Bool := decide (c < clsP P) && wrnB (T 0) P (nI c)
section KEPT
variable {e L n k i xn yn : Nat} {T : TS} {P Q : PK} {M M1 M' : Mem} {v : Option Value} {x y iz s c : Int32} {f g : Nat → Bool} {F : Nat → Nat → Prop} {W O : Nat → Prop}
theorem ni_6 : ∀ c, c < 256 → (nI c >>> ((6 : Int32) &&& 31)) = nI (c / 64) := by decide +kernel
theorem ni_63 : ∀ c, c < 256 → (nI c &&& 63) = nI (c % 64) := by decide +kernel
theorem one_sh : ∀ b, b < 64 → bqN ((1 : Int64) <<< ((nI b).toInt64 &&& 63)) = 2 ^ b := by decide +kernel
theorem nI_p1 (h : n < 1000) : nI n + 1 = nI (n + 1) := Int32.toInt_inj.mp (by rw [i32_p1 (by rw [nI_toInt (by omega)]; omega), nI_toInt (by omega), nI_toInt (by omega)]; omega)
theorem kx_i (hx : x.toInt = (xn : Int)) (x20 : xn ≤ 20) (hi : iz.toInt = (i : Int)) (i4 : i < 4) : (4 * x + iz).toInt = ((4 * xn + i : Nat) : Int) := by
  have t4 : (4 : Int32).toInt = 4 := rfl
  have m : (4 * x).toInt = 4 * x.toInt := i32_mul (by rw [t4]; omega) (by rw [t4]; omega)
  rw [i32_add (by omega) (by omega), m]
  omega
theorem bits_g : lgB 42 84 = true := ql_g42
theorem qa_193' : gNth sT 193 = some 42 := by decide +kernel
theorem kpc_z (hx : x.toInt = (xn : Int)) (x20 : xn ≤ 20) : ∀ (r i : Nat) (iz : Int32) (M : Mem), i + r = 4 → iz.toInt = (i : Int) → SQ M → (∀ j, j < i → lJ M 193 (4 * xn + j) = 0) → Ev none e 15 13 [some (.ref 192), some (.int x), some (.int iz)] [] M v M' 0 0 → ∃ M2, SQ M2 ∧ FZ noF noO noO M M2 ∧ (∀ j, j < 4 → lJ M2 193 (4 * xn + j) = 0) ∧ (∀ i, ¬ (4 * xn ≤ i ∧ i < 4 * xn + 4) → lJ M2 193 i = lJ M 193 i) ∧ Ev none e 15 37 [some (.ref 192), some (.int x), some (.int 0)] [] M2 v M' 0 0 := by
  have t4 : (4 : Int32).toInt = 4 := rfl
  intro r
  induction r with
  | zero =>
    intro i iz M hr hi hS hz H
    rcases kpc_13 hS H with ⟨_, H⟩ | ⟨a1, _⟩
    · exact ⟨M, hS, FZ.refl _, fun j hj => hz j (by omega), fun _ _ => rfl, H⟩
    · exact absurd (Int32.le_iff_toInt_le.mpr (by omega)) a1
  | succ r ih =>
    intro i iz M hr hi hS hz H
    rcases kpc_13 hS H with ⟨a1, _⟩ | ⟨_, _, H⟩
    · have := Int32.le_iff_toInt_le.mp a1
      omega
    · rw [cl_n (kx_i hx x20 hi (by omega))] at H
      obtain ⟨M2, s1, s2, s3, s4, s5⟩ := ih (i + 1) (iz + 1) _ (by omega) (by rw [i32_p1 (by omega)]; omega) hS.kj (fun j hj => by
        by_cases q : j = i
        · rw [q]
          exact lJ_eq hS.1 qa_193' bits_g (by omega)
        · rw [lJ_ne hS.1 qa_193' bits_g (by omega)]
          exact hz j (by omega)) H
      refine ⟨M2, s1, FZ.wJ.trans s2, s3, fun i2 h2 => ?_, s5⟩
      rw [s4 i2 h2, lJ_ne hS.1 qa_193' bits_g (by omega)]
theorem CTX.wj (h : CTX L T P M) {a : Nat} {z : Int64} : CTX L T P (wJ M a n z) := h.lk h.1.1.kj FZ.wJ
theorem kpc_l (hw : wh4 P) (hx : x.toInt = (xn : Int)) (x20 : xn ≤ 20) : ∀ (r cn : Nat) (M : Mem), CTX L T P M → zI M L 0 = P 0 → zI M L 1 = P 1 → cn + r = clsP P → (∀ j b, j < 4 → b < 64 → (bqN (lJ M 193 (4 * xn + j))).testBit b = (decide (64 * j + b < cn) && nwB T P (64 * j + b))) → Ev none e 15 37 [some (.ref 192), some (.int x), some (.int (nI cn))] [] M v M' 0 0 → v = none ∧ SQ M' ∧ FZ noF noO noO M M' ∧ KW M' xn (nwB T P) ∧ ∀ i, ¬ (4 * xn ≤ i ∧ i < 4 * xn + 4) → lJ M' 193 i = lJ M 193 i := by
  obtain ⟨_, c256, _⟩ := cls_int hw
  intro r
  induction r with
  | zero =>
    intro cn M hX h0 h1 hc hb H
    have hg := g6_ok hw h0 h1
    have hl : fR M 104 7 = L := hX.1.2.1
    rcases kpc_37 hX.1.1 H with ⟨_, r1, r2⟩ | ⟨a1, _⟩ | ⟨a1, _⟩
    · rw [r2]
      refine ⟨r1, hX.1.1, FZ.refl _, fun j b hj hbb => ?_, fun _ _ => rfl⟩
      rw [hb j b hj hbb]
      unfold nwB
      rw [show cn = clsP P by omega]
      cases decide (64 * j + b < clsP P) <;> rfl
    all_goals exact absurd (Int32.le_iff_toInt_le.mpr (by rw [hl, hg, nI_toInt (by omega)]; omega)) a1
  | succ r ih =>
    intro cn M hX h0 h1 hc hb H
    have hg := g6_ok hw h0 h1
    have hl : fR M 104 7 = L := hX.1.2.1
    have tc : (nI cn).toInt = (cn : Int) := nI_toInt (by omega)
    have ic : inC P (nI cn) := ⟨by omega, by omega⟩
    have ew : G_56 M (nI cn) = bI (wrnB (T 0) P (nI cn)) := g56_ok hX.1 ic
    have en : nwB T P cn = wrnB (T 0) P (nI cn) := by
      unfold nwB
      rw [decide_eq_true (show cn < clsP P by omega), Bool.true_and]
    have sp : ∀ j b, decide (64 * j + b < cn + 1) = (decide (64 * j + b < cn) || decide (64 * j + b = cn)) := fun j b => by
      by_cases q : 64 * j + b = cn
      · rw [decide_eq_true q, decide_eq_true (show 64 * j + b < cn + 1 by omega), Bool.or_true]
      · rw [decide_eq_false q, Bool.or_false]
        by_cases q2 : 64 * j + b < cn
        · rw [decide_eq_true q2, decide_eq_true (show 64 * j + b < cn + 1 by omega)]
        · rw [decide_eq_false q2, decide_eq_false (show ¬ 64 * j + b < cn + 1 by omega)]
    rcases kpc_37 hX.1.1 H with ⟨a1, _⟩ | ⟨_, a1, H⟩ | ⟨_, a1, _, _, H⟩
    · have := Int32.le_iff_toInt_le.mp a1
      rw [hl, hg] at this
      omega
    · rw [ew] at a1
      rw [nI_p1 (by omega)] at H
      refine ih (cn + 1) M hX h0 h1 (by omega) (fun j b hj hbb => ?_) H
      rw [hb j b hj hbb, sp]
      by_cases q : 64 * j + b = cn
      · rw [q, en]
        cases hwn : wrnB (T 0) P (nI cn) with
        | true => rw [hwn] at a1; exact absurd a1 (by decide)
        | false => rw [Bool.and_false, Bool.and_false]
      · rw [decide_eq_false q, Bool.or_false]
    · rw [ew] at a1
      have hwn : wrnB (T 0) P (nI cn) = true := by
        cases hwn : wrnB (T 0) P (nI cn) with
        | true => rfl
        | false => rw [hwn] at a1; exact absurd rfl a1
      have hd : cn / 64 < 4 := by omega
      rw [nI_p1 (by omega), ni_6 cn (by omega), ni_63 cn (by omega), cl_n (kx_i hx x20 (nI_toInt (show cn / 64 < 2147483648 by omega)) hd)] at H
      have S := hX.1.1
      obtain ⟨u1, u2, u3, u4, u5⟩ := ih (cn + 1) _ hX.wj (by rw [fI_wJ]; exact h0) (by rw [fI_wJ]; exact h1) (by omega) (fun j b hj hbb => by
        by_cases q : j = cn / 64
        · rw [q, lJ_eq S.1 qa_193' bits_g (by omega)]
          unfold bqN
          rw [Int64.toBitVec_or, BitVec.toNat_or, Nat.testBit_or]
          have o1 : ((1 : Int64) <<< ((nI (cn % 64)).toInt64 &&& 63)).toBitVec.toNat = 2 ^ (cn % 64) := one_sh _ (by omega)
          rw [o1, Nat.testBit_two_pow]
          have hb2 := hb (cn / 64) b hd hbb
          unfold bqN at hb2
          rw [hb2, sp]
          by_cases q2 : cn % 64 = b
          · have q3 : 64 * (cn / 64) + b = cn := by omega
            rw [q3, decide_eq_true q2, Bool.or_true, decide_eq_true rfl, Bool.or_true, Bool.true_and, en, hwn]
          · have q3 : ¬ 64 * (cn / 64) + b = cn := by omega
            rw [decide_eq_false q2, Bool.or_false, decide_eq_false q3, Bool.or_false]
        · rw [lJ_ne S.1 qa_193' bits_g (by omega), hb j b hj hbb, sp, decide_eq_false (show ¬ 64 * j + b = cn by omega), Bool.or_false]) H
      refine ⟨u1, u2, FZ.wJ.trans u3, u4, fun i hi => ?_⟩
      rw [u5 i hi, lJ_ne S.1 qa_193' bits_g (by omega)]
theorem keep_ok (hw : wh4 P) (hX : CTX L T P M) (h0 : zI M L 0 = P 0) (h1 : zI M L 1 = P 1) (hx : x.toInt = (xn : Int)) (x20 : xn ≤ 20) (H : Ev none e 15 0 [some (.ref 192), some (.int x), none] [] M v M' 0 0) : v = none ∧ SQ M' ∧ FZ noF noO noO M M' ∧ KW M' xn (nwB T P) ∧ ∀ i, ¬ (4 * xn ≤ i ∧ i < 4 * xn + 4) → lJ M' 193 i = lJ M 193 i := by
  rcases kpc_0 hX.1.1 H with ⟨a1, _⟩ | ⟨_, H⟩
  · rw [g126_R] at a1
    exact absurd ⟨by show (0 : Int) ≤ x.toInt; omega, by show x.toInt ≤ (20 : Int); omega⟩ a1
  · obtain ⟨M2, s1, s2, s3, s4, s5⟩ := kpc_z hx x20 4 0 0 M rfl rfl hX.1.1 (fun j hj => absurd hj (Nat.not_lt_zero j)) H
    have F2 : FZ noF lkW noO M M2 := s2.more (fun _ _ q => q) (fun _ q => q.elim) (fun _ q => q)
    obtain ⟨u1, u2, u3, u4, u5⟩ := kpc_l hw hx x20 (clsP P) 0 M2 (hX.lk s1 F2) ((s2.fi (fun q => q)).trans h0) ((s2.fi (fun q => q)).trans h1) (by omega) (fun j b hj hb => by
      rw [s3 j hj]
      have z : bqN 0 = 0 := rfl
      rw [z, Nat.zero_testBit, decide_eq_false (Nat.not_lt_zero _), Bool.false_and]) s5
    exact ⟨u1, u2, s2.trans u3, u4, fun i hi => (u5 i hi).trans (s4 i hi)⟩
/-! counted -/
theorem ctW_app : ∀ (a b i : Nat), ctW f (a + b) i = ctW f a i + ctW f b (i + a) := by
  intro a
  induction a with
  | zero => intro b i; rw [Nat.zero_add]; show _ = 0 + _; rw [Nat.zero_add, Nat.add_zero]
  | succ a ih =>
    intro b i
    have e : ctW f (a + 1 + b) i = (if f i = true then 1 else 0) + ctW f (a + b) (i + 1) := by
      rw [show a + 1 + b = (a + b) + 1 by omega]
      rfl
    rw [e, ih b (i + 1), show i + 1 + a = i + (a + 1) by omega]
    show _ = (if f i = true then 1 else 0) + ctW f a (i + 1) + _
    omega
theorem ctW_sh : ∀ (r i k : Nat), (∀ t, t < r → g (i + t) = f (k + t)) → ctW g r i = ctW f r k := by
  intro r
  induction r with
  | zero => intro i k _; rfl
  | succ r ih =>
    intro i k h
    unfold ctW
    have h0 := h 0 (by omega)
    rw [Nat.add_zero, Nat.add_zero] at h0
    rw [h0, ih (i + 1) (k + 1) (fun t ht => by
      have q := h (t + 1) (by omega)
      rw [show i + 1 + t = i + (t + 1) by omega, show k + 1 + t = k + (t + 1) by omega]
      exact q)]
theorem ctW_no : ∀ (r i : Nat), (∀ t, t < r → f (i + t) = false) → ctW f r i = 0 := by
  intro r
  induction r with
  | zero => intro i _; rfl
  | succ r ih =>
    intro i h
    unfold ctW
    have h0 := h 0 (by omega)
    rw [Nat.add_zero] at h0
    rw [h0, ih (i + 1) (fun t ht => by
      rw [show i + 1 + t = i + (t + 1) by omega]
      exact h (t + 1) (by omega))]
    rfl
theorem ctW_le : ∀ (r i : Nat), ctW f r i ≤ r := by
  intro r
  induction r with
  | zero => intro i; exact Nat.le_refl _
  | succ r ih =>
    intro i
    have q := ih (i + 1)
    unfold ctW
    split <;> omega
theorem wd_ct {w : Int64} (j : Nat) (h : ∀ b, b < 64 → (bqN w).testBit b = f (64 * j + b)) : sb1 64 (bqN w) = ctW f 64 (64 * j) := by
  rw [sb1_ct 64 (bqN w) 0]
  refine ctW_sh 64 0 (64 * j) (fun t ht => ?_)
  rw [Nat.zero_add, Nat.sub_zero]
  exact h t ht
theorem szc_l (hx : x.toInt = (xn : Int)) (x20 : xn ≤ 20) (hK : KW M xn f) (hS : SQ M) : ∀ (r i : Nat) (iz s : Int32), i + r = 4 → iz.toInt = (i : Int) → s.toInt = ((ctW f (64 * i) 0 : Nat) : Int) → Ev none e 16 4 [some (.ref 192), some (.int x), some (.int s), some (.int iz)] [] M v M' 0 0 → M' = M ∧ ∃ y : Int32, v = some (.int y) ∧ y.toInt = ((ctW f 256 0 : Nat) : Int) := by
  have t4 : (4 : Int32).toInt = 4 := rfl
  intro r
  induction r with
  | zero =>
    intro i iz s hr hi hs H
    rcases szc_4 hS H with ⟨_, r1, r2⟩ | ⟨a1, _⟩
    · refine ⟨r2, s, r1, ?_⟩
      rw [hs, show i = 4 by omega]
    · exact absurd (Int32.le_iff_toInt_le.mpr (by omega)) a1
  | succ r ih =>
    intro i iz s hr hi hs H
    rcases szc_4 hS H with ⟨a1, _⟩ | ⟨_, _, e1, v1, M1, _, H1, H⟩
    · have := Int32.le_iff_toInt_le.mp a1
      omega
    · rw [cl_n (kx_i hx x20 hi (by omega))] at H1
      obtain ⟨rm, q, rv, hq⟩ := btc_ok hS H1
      rw [rm, rv] at H
      have H := szc_23 hS H
      rw [wd_ct (f := f) i (fun b hb => hK i b (by omega) hb)] at hq
      have l1 := ctW_le (f := f) (64 * i) 0
      have l2 := ctW_le (f := f) 64 (64 * i)
      refine ih (i + 1) (iz + 1) (s + q) (by omega) (by rw [i32_p1 (by omega)]; omega) ?_ H
      rw [i32_add (by omega) (by omega), hs, hq, show 64 * (i + 1) = 64 * i + 64 by omega, ctW_app, Nat.zero_add]
      omega
theorem size_ok (hS : SQ M) (hx : x.toInt = (xn : Int)) (x20 : xn ≤ 20) (hK : KW M xn f) (H : Ev none e 16 0 [some (.ref 192), some (.int x), none, none] [] M v M' 0 0) : M' = M ∧ ∃ y : Int32, v = some (.int y) ∧ y.toInt = ((ctW f 256 0 : Nat) : Int) := szc_l hx x20 hK hS 4 0 0 0 rfl rfl rfl (szc_0 hS H)
theorem tb_an {a b : Int64} {i : Nat} (hi : i < 64) : (bqN (a &&& (b ^^^ (-1)))).testBit i = ((bqN a).testBit i && !(bqN b).testBit i) := by
  unfold bqN
  rw [Int64.toBitVec_and, BitVec.toNat_and, Nat.testBit_and, Int64.toBitVec_xor, BitVec.toNat_xor, Nat.testBit_xor]
  have m : ((-1 : Int64)).toBitVec.toNat.testBit i = true := (by decide +kernel : ∀ i, i < 64 → ((-1 : Int64)).toBitVec.toNat.testBit i = true) i hi
  rw [m, Bool.xor_true]
theorem alc_l (hx : x.toInt = (xn : Int)) (x20 : xn ≤ 20) (hK : KW M xn f) (hy : y.toInt = (yn : Int)) (y20 : yn ≤ 20) (hG : KW M yn g) (hS : SQ M) : ∀ (r i : Nat) (iz s : Int32), i + r = 4 → iz.toInt = (i : Int) → s.toInt = ((ctW (fun c => f c && !g c) (64 * i) 0 : Nat) : Int) → Ev none e 17 5 [some (.ref 192), some (.int x), some (.int y), some (.int s), some (.int iz)] [] M v M' 0 0 → M' = M ∧ ∃ y : Int32, v = some (.int y) ∧ y.toInt = ((ctW (fun c => f c && !g c) 256 0 : Nat) : Int) := by
  have t4 : (4 : Int32).toInt = 4 := rfl
  intro r
  induction r with
  | zero =>
    intro i iz s hr hi hs H
    rcases alc_5 hS H with ⟨_, r1, r2⟩ | ⟨a1, _⟩
    · refine ⟨r2, s, r1, ?_⟩
      rw [hs, show i = 4 by omega]
    · exact absurd (Int32.le_iff_toInt_le.mpr (by omega)) a1
  | succ r ih =>
    intro i iz s hr hi hs H
    rcases alc_5 hS H with ⟨a1, _⟩ | ⟨_, _, _, e1, v1, M1, _, H1, H⟩
    · have := Int32.le_iff_toInt_le.mp a1
      omega
    · rw [cl_n (kx_i hx x20 hi (by omega)), cl_n (kx_i hy y20 hi (by omega))] at H1
      obtain ⟨rm, q, rv, hq⟩ := btc_ok hS H1
      rw [rm, rv] at H
      have H := alc_42 hS H
      rw [wd_ct (f := fun c => f c && !g c) i (fun b hb => by
        rw [tb_an hb, hK i b (by omega) hb, hG i b (by omega) hb])] at hq
      have l1 := ctW_le (f := fun c => f c && !g c) (64 * i) 0
      have l2 := ctW_le (f := fun c => f c && !g c) 64 (64 * i)
      refine ih (i + 1) (iz + 1) (s + q) (by omega) (by rw [i32_p1 (by omega)]; omega) ?_ H
      rw [i32_add (by omega) (by omega), hs, hq, show 64 * (i + 1) = 64 * i + 64 by omega, ctW_app, Nat.zero_add]
      omega
theorem alone_ok (hS : SQ M) (hx : x.toInt = (xn : Int)) (x20 : xn ≤ 20) (hK : KW M xn f) (hy : y.toInt = (yn : Int)) (y20 : yn ≤ 20) (hG : KW M yn g) (H : Ev none e 17 0 [some (.ref 192), some (.int x), some (.int y), none, none] [] M v M' 0 0) : M' = M ∧ ∃ y : Int32, v = some (.int y) ∧ y.toInt = ((ctW (fun c => f c && !g c) 256 0 : Nat) : Int) := alc_l hx x20 hK hy y20 hG hS 4 0 0 0 rfl rfl rfl (alc_0 hS H)
/-! the same in the park's words -/
theorem netP_ct {q : TQ} : ∀ (r cn : Nat) (s : Int32) (a : Nat), cn + r ≤ 256 → s.toInt = (a : Int) → a ≤ cn → (netP q P r (nI cn) s).toInt = ((a + ctW (fun k => wrnB q P (nI k)) r cn : Nat) : Int) := by
  intro r
  induction r with
  | zero => intro cn s a _ hs _; exact hs
  | succ r ih =>
    intro cn s a hc hs ha
    unfold netP ctW
    rw [nI_p1 (by omega)]
    cases hw : wrnB q P (nI cn) with
    | true =>
      rw [if_pos rfl, if_pos rfl, ih (cn + 1) (s + 1) (a + 1) (by omega) (by rw [i32_p1 (by omega)]; omega) (by omega)]
      omega
    | false =>
      rw [if_neg (by decide), if_neg (by decide), show s + 0 = s by grind, ih (cn + 1) s a (by omega) hs (by omega), Nat.zero_add]
theorem alo_ct {q : TQ} : ∀ (r cn : Nat) (s : Int32) (a : Nat), cn + r ≤ 256 → s.toInt = (a : Int) → a ≤ cn → (aloP2 q P Q r (nI cn) s).toInt = ((a + ctW (fun k => wrnB q P (nI k) && !wrnB q Q (nI k)) r cn : Nat) : Int) := by
  intro r
  induction r with
  | zero => intro cn s a _ hs _; exact hs
  | succ r ih =>
    intro cn s a hc hs ha
    unfold aloP2 ctW
    rw [nI_p1 (by omega)]
    cases hw : wrnB q P (nI cn) with
    | true =>
      cases hq : wrnB q Q (nI cn) with
      | true =>
        rw [if_neg (by decide), if_neg (by decide), show s + 0 = s by grind, ih (cn + 1) s a (by omega) hs (by omega), Nat.zero_add]
      | false =>
        rw [if_pos (by decide), if_pos (by decide), ih (cn + 1) (s + 1) (a + 1) (by omega) (by rw [i32_p1 (by omega)]; omega) (by omega)]
        omega
    | false =>
      rw [if_neg (by simp), if_neg (by simp), show s + 0 = s by grind, ih (cn + 1) s a (by omega) hs (by omega), Nat.zero_add]
theorem nwP_ct (h : clsP P ≤ 256) : (nwP (T 0) P).toInt = ((ctW (nwB T P) 256 0 : Nat) : Int) := by
  have e := netP_ct (q := T 0) (P := P) (clsP P) 0 0 0 (by omega) rfl (Nat.le_refl _)
  have e2 : nwP (T 0) P = netP (T 0) P (clsP P) (nI 0) 0 := rfl
  rw [e2, e, Nat.zero_add]
  have s1 : ctW (nwB T P) 256 0 = ctW (nwB T P) (clsP P) 0 + ctW (nwB T P) (256 - clsP P) (0 + clsP P) := by
    rw [← ctW_app, show clsP P + (256 - clsP P) = 256 by omega]
  rw [s1, ctW_no (256 - clsP P) (0 + clsP P) (fun t ht => by
    unfold nwB
    rw [decide_eq_false (by omega), Bool.false_and]), Nat.add_zero]
  rw [ctW_sh (f := nwB T P) (g := fun k => wrnB (T 0) P (nI k)) (clsP P) 0 0 (fun t ht => by
    unfold nwB
    rw [decide_eq_true (by omega), Bool.true_and])]
theorem aloP_ct (h : clsP P ≤ 256) (hQ : clsP Q = clsP P) : (aloP2 (T 0) P Q (clsP P) 0 0).toInt = ((ctW (fun c => nwB T P c && !nwB T Q c) 256 0 : Nat) : Int) := by
  have e := alo_ct (q := T 0) (P := P) (Q := Q) (clsP P) 0 0 0 (by omega) rfl (Nat.le_refl _)
  have e2 : aloP2 (T 0) P Q (clsP P) 0 0 = aloP2 (T 0) P Q (clsP P) (nI 0) 0 := rfl
  rw [e2, e, Nat.zero_add]
  have s1 : ctW (fun c => nwB T P c && !nwB T Q c) 256 0 = ctW (fun c => nwB T P c && !nwB T Q c) (clsP P) 0 + ctW (fun c => nwB T P c && !nwB T Q c) (256 - clsP P) (0 + clsP P) := by
    rw [← ctW_app, show clsP P + (256 - clsP P) = 256 by omega]
  rw [s1, ctW_no (256 - clsP P) (0 + clsP P) (fun t ht => by
    unfold nwB
    rw [decide_eq_false (show ¬ 0 + clsP P + t < clsP P by omega), Bool.false_and, Bool.false_and]), Nat.add_zero]
  rw [ctW_sh (f := fun c => nwB T P c && !nwB T Q c) (g := fun k => wrnB (T 0) P (nI k) && !wrnB (T 0) Q (nI k)) (clsP P) 0 0 (fun t ht => by
    unfold nwB
    rw [hQ, decide_eq_true (show 0 + t < clsP P by omega), Bool.true_and, Bool.true_and])]
end KEPT
/-! THE CLASS'S paved, wait -/
section CPAV
variable {e B n tt wn xn yn : Nat} {T : TS} {P P0 Q : PK} {PI : Nat → PK} {md : Md} {M M1 M' : Mem} {v : Option Value} {x y t w ws wh be le : Int32} {f g : Nat → Bool}
set_option maxRecDepth 200000 in
theorem bits_p : gpB 193 [42] = true := by decide +kernel
theorem lrw_frm (hS : SH M) (hF : Frm sT md M M') (hB : mdC md [1042] = true) : lrw M' 193 = lrw M 193 := by
  obtain ⟨h1, _⟩ := hS.lrow qa_193' bits_g
  obtain ⟨x', h2, h3⟩ := hF.2.2 193 2 _ h1
  have w : ¬ mW md 193 := gpB_W bits_p hB
  have h4 := h3 (fun g hg q => w (Or.inr ⟨g, hg, q⟩))
  show (match gNth M' 193 with
    | some (.inl (_, .inr (.inl l))) => l
    | _ => []) = _
  rw [h2, h4]
theorem KW.eq (h : KW M xn f) (e : ∀ j, j < 4 → lJ M' 193 (4 * xn + j) = lJ M 193 (4 * xn + j)) : KW M' xn f := fun j b hj hb => by rw [e j hj]; exact h j b hj hb
theorem onkJ (hI : INV M) (he : 7 ≤ e) (H : Ev none e 134 0 [some (.ref 0), some (.int t)] [] M v M' 0 0) : INV M' ∧ ∀ i, lJ M' 193 i = lJ M 193 i := by
  obtain ⟨h1, h2, _⟩ := inv_d (c := kX10_oneWeek) (k := 2) (ws := [.ref 0, .int t]) kX10_oneWeek_ok (by decide +kernel) mx_all.2.2.2.2.2.2.2 he (Two.mk rfl (Two.mk ⟨t, rfl, i32_any t⟩ trivial)) hI H
  have q := lrw_frm hI.1.sh h2 (by decide +kernel)
  exact ⟨h1, fun i => by unfold lJ; rw [q]⟩
theorem nt_no (h : FZ noF noO noO M M') : FZ netF netW netW M M' := h.more (fun _ _ q => q.elim) (fun _ q => q.elim) (fun _ q => q.elim)
/-- one more week kept -/
theorem keepX (h : TRI T P0 PI B w [] Q M) (hI : INV M) (he : 1 ≤ e) (hx : x.toInt = (xn : Int)) (x20 : xn ≤ 20) (H : Ev none e 15 0 [some (.ref 192), some (.int x), none] [] M v M' 0 0) : v = none ∧ INV M' ∧ TRI T P0 PI B w [] Q M' ∧ KW M' xn (nwB T Q) ∧ ∀ i, ¬ (4 * xn ≤ i ∧ i < 4 * xn + 4) → lJ M' 193 i = lJ M 193 i := by
  obtain ⟨_, I1, S1, _⟩ := keepC hI h.2.1.sq.2 he H
  obtain ⟨r1, _, F1, k1, k2⟩ := keep_ok h.2.2.2.1.1 h.2.1.1 h.2.1.2.2.1.1 h.2.1.2.2.1.2.1 hx x20 H
  exact ⟨r1, I1, h.nt S1 (nt_no F1), k1, k2⟩
theorem kwx_l (ht : t.toInt = (tt : Int)) (t200 : tt ≤ 200) (he : 8 ≤ e) (hws : ws.toInt = (wn : Int)) (w20 : wn ≤ 20) : ∀ (r k : Nat) (nz : Int32) (B : Nat) (M : Mem), TRI T P0 PI B (-1) [] (wkN T tt k P0) M → INV M → (∀ w, 1 ≤ w → w ≤ k → KW M w (nwB T (wkN T tt w P0))) → nz.toInt = ((k + 1 : Nat) : Int) → k + r = wn → B + 60 * tt * r ≤ 100000000 → Ev none e 107 6 [some (.ref 0), some (.int ws), some (.int t), some (.int nz)] [] M v M' 0 0 → v = none ∧ CST T P0 PI M' ∧ INV M' ∧ ∀ w, 1 ≤ w → w ≤ wn → KW M' w (nwB T (wkN T tt w P0)) := by
  intro r
  induction r with
  | zero =>
    intro k nz B M h hI hk hz hr hB H
    rcases kwk_6 h.2.1.sq H with ⟨_, r1, r2⟩ | ⟨a1, _⟩
    · rw [r2]
      exact ⟨r1, h.1, hI, fun w h1 h2 => hk w h1 (by omega)⟩
    · exact absurd (Int32.lt_iff_toInt_lt.mpr (by omega)) a1
  | succ r ih =>
    intro k nz B M h hI hk hz hr hB H
    rcases kwk_6 h.2.1.sq H with ⟨a1, _⟩ | ⟨_, e1, v1, M1, he1, H1, H⟩
    · have := Int32.lt_iff_toInt_lt.mp a1
      omega
    · have hm : 60 * tt * (r + 1) = 60 * tt * r + 60 * tt := by rw [Nat.mul_add, Nat.mul_one]
      obtain ⟨I1, j1⟩ := onkJ hI (by omega) H1
      obtain ⟨rv, q1, _⟩ := onk_ok h (n := tt) (by omega) ht H1
      rw [rv] at H
      rw [← wkN_s] at q1
      obtain ⟨e2, v2, M2, he2, H2, H⟩ := kwk_16 q1.2.1.sq H
      obtain ⟨rv2, I2, q2, k2, k3⟩ := keepX q1 I1 (by omega) hz (by omega) H2
      rw [rv2] at H
      exact ih (k + 1) (nz + 1) (B + 60 * tt) M2 q2 I2 (fun w h1 h2 => by
        by_cases q : w = k + 1
        · rw [q]; exact k2
        · exact ((hk w h1 (by omega)).eq (fun j hj => j1 _)).eq (fun j hj => k3 _ (by omega))) (by rw [i32_p1 (by omega)]; omega) (by omega) (by omega) (kwk_24 q2.2.1.sq H)
theorem kwkX (h : CST T P PI M) (hI : INV M) (he : 9 ≤ e) (i20 : inX ws 1 20) (i200 : inX t 1 200) (H : Ev none e 107 0 [some (.ref 0), some (.int ws), some (.int t), none] [] M v M' 0 0) : v = none ∧ CST T P PI M' ∧ INV M' ∧ ∀ w, 1 ≤ w → w ≤ ws.toInt.toNat → KW M' w (nwB T (wkN T t.toInt.toNat w P)) := by
  obtain ⟨e1, v1, M1, he1, H1, H⟩ := kwk_0 h.sq H
  obtain ⟨rv, q1, _⟩ := opcT_ok h H1
  have I1 := opcI hI (by omega) H1
  rw [rv] at H
  have w1 : 1 ≤ ws.toInt := i20.1
  have w20 : ws.toInt ≤ 20 := i20.2
  have t1 : 1 ≤ t.toInt := i200.1
  have t200 : t.toInt ≤ 200 := i200.2
  have hb := h.ok.bud
  have hm : 60 * t.toInt.toNat * ws.toInt.toNat ≤ 60 * 200 * 20 := Nat.mul_le_mul (Nat.mul_le_mul_left _ (by omega)) (by omega)
  exact kwx_l (T := T) (tt := t.toInt.toNat) (wn := ws.toInt.toNat) (by omega) (by omega) (by omega) (by omega) (by omega) ws.toInt.toNat 0 1 _ M1 q1 I1 (fun w h1 h2 => by omega) rfl (by omega) (by omega) (kwk_4 q1.2.1.sq H)
theorem pavA_0 (hD : okD P) (hK : okK P) : (pavA T P w ws t 0).toInt = ((ctW (nwB T (wkN T t.toInt.toNat w.toInt.toNat P)) 256 0 : Nat) : Int) := by
  obtain ⟨d1, k1⟩ := (wkN_0 (T := T) (n := t.toInt.toNat) w.toInt.toNat P hD hK).1
  obtain ⟨_, c256, _⟩ := cls_int d1.1
  unfold pavA
  rw [if_pos rfl]
  exact nwP_ct c256
theorem wkN_cl (hD : okD P) (hK : okK P) (a b : Nat) : clsP (wkN T n a P) = clsP (wkN T n b P) := by
  have q1 := (wkN_0 (T := T) (n := n) a P hD hK).2
  have q2 := (wkN_0 (T := T) (n := n) b P hD hK).2
  exact cls_eq ((q1 0 (by decide)).trans (q2 0 (by decide)).symm) ((q1 1 (by decide)).trans (q2 1 (by decide)).symm)
theorem pavA_1 (hD : okD P) (hK : okK P) : (pavA T P w ws t 1).toInt = ((ctW (fun c => nwB T (wkN T t.toInt.toNat w.toInt.toNat P) c && !nwB T (wkN T t.toInt.toNat ws.toInt.toNat P) c) 256 0 : Nat) : Int) := by
  obtain ⟨d1, k1⟩ := (wkN_0 (T := T) (n := t.toInt.toNat) w.toInt.toNat P hD hK).1
  obtain ⟨_, c256, _⟩ := cls_int d1.1
  have e1 : ¬ (1 : Int32) = 0 := by decide
  unfold pavA
  rw [if_neg e1, if_pos rfl]
  rw [show clsP P = clsP (wkN T t.toInt.toNat w.toInt.toNat P) from wkN_cl (n := t.toInt.toNat) hD hK 0 w.toInt.toNat]
  exact aloP_ct c256 (wkN_cl hD hK _ _)
theorem pavA_2 (hD : okD P) (hK : okK P) (h0 : ¬ wh = 0) (h1 : ¬ wh = 1) : (pavA T P w ws t wh).toInt = ((ctW (fun c => nwB T (wkN T t.toInt.toNat ws.toInt.toNat P) c && !nwB T (wkN T t.toInt.toNat w.toInt.toNat P) c) 256 0 : Nat) : Int) := by
  obtain ⟨d1, k1⟩ := (wkN_0 (T := T) (n := t.toInt.toNat) ws.toInt.toNat P hD hK).1
  obtain ⟨_, c256, _⟩ := cls_int d1.1
  unfold pavA
  rw [if_neg h0, if_neg h1]
  rw [show clsP P = clsP (wkN T t.toInt.toNat ws.toInt.toNat P) from wkN_cl (n := t.toInt.toNat) hD hK 0 ws.toInt.toNat]
  exact aloP_ct c256 (wkN_cl hD hK _ _)
theorem paved_ok (h : CST T P PI M) (hI : INV M) (he : 10 ≤ e) (H : Ev none e 104 0 [some (.ref 0), some (.int w), some (.int ws), some (.int t), some (.int wh)] [] M v M' 0 0) : CST T P PI M' ∧ ((pavN w ws t wh ∧ v = some (.int (-1))) ∨ (¬ pavN w ws t wh ∧ v = some (.int (pavA T P w ws t wh)))) := by
  have hD := h.ok.1
  have hK := h.ok.2.1
  unfold pavN
  rcases pvd_0 h.sq H with ⟨a1, r1, r2⟩ | ⟨_, a1, r1, r2⟩ | ⟨_, _, a1, r1, r2⟩ | ⟨a1, a2, a3, e1, v1, M1, he1, H1, H⟩
  · rw [r2]
    rw [g106_R] at a1
    refine ⟨h, Or.inl ⟨?_, r1⟩⟩
    by_cases q : inX ws 1 20
    · exact Or.inr (Or.inr (Or.inl (fun q2 => a1 ⟨q, q2⟩)))
    · exact Or.inl q
  · rw [r2]
    rw [g126_R] at a1
    exact ⟨h, Or.inl ⟨Or.inr (Or.inl a1), r1⟩⟩
  · rw [r2]
    rw [g126_R] at a1
    exact ⟨h, Or.inl ⟨Or.inr (Or.inr (Or.inr a1)), r1⟩⟩
  · rw [g106_R, Classical.not_not] at a1
    rw [g126_R, Classical.not_not] at a2 a3
    have ng : ¬ (¬ inX ws 1 20 ∨ ¬ inX w 1 ws ∨ ¬ inX t 1 200 ∨ ¬ inX wh 0 2) := fun q => by
      rcases q with q | q | q | q
      · exact q a1.1
      · exact q a2
      · exact q a1.2
      · exact q a3
    have w1 : 1 ≤ ws.toInt := a1.1.1
    have w20 : ws.toInt ≤ 20 := a1.1.2
    have b1 : 1 ≤ w.toInt := a2.1
    have b2 : w.toInt ≤ ws.toInt := a2.2
    obtain ⟨rv, q1, I1, kw⟩ := kwkX h hI (by omega) a1.1 a1.2 H1
    rw [rv] at H
    have kA := kw w.toInt.toNat (by omega) (by omega)
    have kZ := kw ws.toInt.toNat (by omega) (by omega)
    rcases pvd_36 q1.sq H with ⟨z0, e2, v2, M2, he2, H2, H⟩ | ⟨_, z1, e2, v2, M2, he2, H2, H⟩ | ⟨z0, z1, e2, v2, M2, he2, H2, H⟩
    · obtain ⟨rm, y, rv2, hy⟩ := size_ok q1.sq (xn := w.toInt.toNat) (by omega) (by omega) kA H2
      rw [rm, rv2] at H
      obtain ⟨r1, r2⟩ := pvd_72 q1.sq H
      rw [r2]
      refine ⟨q1, Or.inr ⟨ng, ?_⟩⟩
      rw [r1, z0]
      exact congrArg (fun q => some (Value.int q)) (Int32.toInt_inj.mp (hy.trans (pavA_0 hD hK).symm))
    · obtain ⟨rm, y, rv2, hy⟩ := alone_ok q1.sq (xn := w.toInt.toNat) (yn := ws.toInt.toNat) (by omega) (by omega) kA (by omega) (by omega) kZ H2
      rw [rm, rv2] at H
      obtain ⟨r1, r2⟩ := pvd_82 q1.sq H
      rw [r2]
      refine ⟨q1, Or.inr ⟨ng, ?_⟩⟩
      rw [r1, z1]
      exact congrArg (fun q => some (Value.int q)) (Int32.toInt_inj.mp (hy.trans (pavA_1 hD hK).symm))
    · obtain ⟨rm, y, rv2, hy⟩ := alone_ok q1.sq (xn := ws.toInt.toNat) (yn := w.toInt.toNat) (by omega) (by omega) kZ (by omega) (by omega) kA H2
      rw [rm, rv2] at H
      obtain ⟨r1, r2⟩ := pvd_92 q1.sq H
      rw [r2]
      refine ⟨q1, Or.inr ⟨ng, ?_⟩⟩
      rw [r1]
      exact congrArg (fun q => some (Value.int q)) (Int32.toInt_inj.mp (hy.trans (pavA_2 hD hK z0 z1).symm))
/-! wait -/
theorem ctW_2 : ∀ (r i : Nat), (∀ c, (f c && g c) = false) → ctW f r i + ctW g r i ≤ r := by
  intro r
  induction r with
  | zero => intro i _; exact Nat.le_refl _
  | succ r ih =>
    intro i h
    have q := ih (i + 1) h
    have hi := h i
    unfold ctW
    cases hf : f i <;> cases hg : g i <;> rw [hf, hg] at hi <;> simp at hi ⊢ <;> omega
theorem waiS_lt (hD : okD P) (hK : okK P) (w1 : 1 ≤ w.toInt) (w20 : w.toInt ≤ 20) : (waiS T P ws t w).toInt = (pavA T P w ws t 1).toInt + (pavA T P w ws t 2).toInt + w.toInt ∧ 0 ≤ (pavA T P w ws t 1).toInt ∧ 0 ≤ (pavA T P w ws t 2).toInt ∧ (pavA T P w ws t 1).toInt + (pavA T P w ws t 2).toInt ≤ 256 := by
  have h1 := pavA_1 (T := T) (w := w) (ws := ws) (t := t) hD hK
  have h2 := pavA_2 (T := T) (w := w) (ws := ws) (t := t) (wh := 2) hD hK (by decide) (by decide)
  have h3 := ctW_2 (f := fun c => nwB T (wkN T t.toInt.toNat w.toInt.toNat P) c && !nwB T (wkN T t.toInt.toNat ws.toInt.toNat P) c) (g := fun c => nwB T (wkN T t.toInt.toNat ws.toInt.toNat P) c && !nwB T (wkN T t.toInt.toNat w.toInt.toNat P) c) 256 0 (fun c => by
    cases nwB T (wkN T t.toInt.toNat w.toInt.toNat P) c <;> cases nwB T (wkN T t.toInt.toNat ws.toInt.toNat P) c <;> rfl)
  refine ⟨?_, by omega, by omega, by omega⟩
  unfold waiS
  have s1 : (pavA T P w ws t 1 + pavA T P w ws t 2).toInt = (pavA T P w ws t 1).toInt + (pavA T P w ws t 2).toInt := i32_add (by omega) (by omega)
  rw [i32_add (by omega) (by omega), s1]
theorem waix_l (h : CST T P PI M) (i20 : inX ws 1 20) (kw : ∀ w, 1 ≤ w → w ≤ ws.toInt.toNat → KW M w (nwB T (wkN T t.toInt.toNat w P))) : ∀ (r : Nat) (wz be le : Int32) (c6 : Option Value), wz.toInt + (r : Int) = ws.toInt + 1 → 1 ≤ wz.toInt → (0 ≤ be.toInt ∨ r = 0) → Ev none e 105 27 [some (.ref 0), some (.int ws), some (.int t), some (.int be), some (.int le), some (.int wz), c6] [] M v M' 0 0 → M' = M ∧ v = some (.int (waiL T P ws t r wz be le)) := by
  have hD := h.ok.1
  have hK := h.ok.2.1
  have w20 : ws.toInt ≤ 20 := i20.2
  intro r
  induction r with
  | zero =>
    intro wz be le c6 hw h1 hbe H
    rcases wai_27 h.sq H with ⟨_, r1, r2⟩ | ⟨a1, _⟩
    · exact ⟨r2, r1⟩
    · exact absurd (Int32.lt_iff_toInt_lt.mpr (by omega)) a1
  | succ r ih =>
    intro wz be le c6 hw h1 hbe H
    have b0 : 0 ≤ be.toInt := hbe.resolve_right (by omega)
    rcases wai_27 h.sq H with ⟨a1, _⟩ | ⟨_, e1, v1, M1, he1, H1, H⟩
    · have := Int32.lt_iff_toInt_lt.mp a1
      omega
    · have kA := kw wz.toInt.toNat (by omega) (by omega)
      have kZ := kw ws.toInt.toNat (by omega) (by omega)
      obtain ⟨rm, p, rv, hp⟩ := alone_ok h.sq (xn := wz.toInt.toNat) (yn := ws.toInt.toNat) (by omega) (by omega) kA (by omega) (by omega) kZ H1
      rw [rm, rv] at H
      obtain ⟨e2, v2, M2, he2, H2, H⟩ := wai_43 h.sq H
      obtain ⟨rm2, q, rv2, hq⟩ := alone_ok h.sq (xn := ws.toInt.toNat) (yn := wz.toInt.toNat) (by omega) (by omega) kZ (by omega) (by omega) kA H2
      rw [rm2, rv2] at H
      have ep : p = pavA T P wz ws t 1 := Int32.toInt_inj.mp (hp.trans (pavA_1 hD hK).symm)
      have eq : q = pavA T P wz ws t 2 := Int32.toInt_inj.mp (hq.trans (pavA_2 hD hK (by decide) (by decide)).symm)
      have es : p + q + wz = waiS T P ws t wz := by rw [ep, eq]; rfl
      have H := wai_53 h.sq H
      rw [es] at H
      have z1 : (wz + 1).toInt = wz.toInt + 1 := i32_p1 (by omega)
      have nb : ¬ be < 0 := fun q => by
        have := Int32.lt_iff_toInt_lt.mp q
        have t0 : (0 : Int32).toInt = 0 := rfl
        omega
      unfold waiL
      rcases H with ⟨b1, H⟩ | ⟨b1, H⟩
      · have b1 := Int32.le_iff_toInt_le.mp b1
        rw [if_neg (fun q => q.elim nb (fun q => by
          have := Int32.lt_iff_toInt_lt.mp q
          omega))]
        exact ih _ _ _ _ (by omega) (by omega) (Or.inl b0) H
      · have b2 : ¬ le.toInt ≤ (waiS T P ws t wz).toInt := fun q => b1 (Int32.le_iff_toInt_le.mpr q)
        rw [if_pos (Or.inr (Int32.lt_iff_toInt_lt.mpr (by omega)))]
        exact ih _ _ _ _ (by omega) (by omega) (Or.inl (by omega)) H
theorem wait_ok (h : CST T P PI M) (hI : INV M) (he : 10 ≤ e) (H : Ev none e 105 0 [some (.ref 0), some (.int ws), some (.int t), none, none, none, none] [] M v M' 0 0) : CST T P PI M' ∧ ((waiN ws t ∧ v = some (.int (-1))) ∨ (¬ waiN ws t ∧ v = some (.int (waiL T P ws t ws.toInt.toNat 1 (-1) 0)))) := by
  have hD := h.ok.1
  have hK := h.ok.2.1
  unfold waiN
  rcases wai_0 h.sq H with ⟨a1, r1, r2⟩ | ⟨a1, e1, v1, M1, he1, H1, H⟩
  · rw [r2]
    rw [g106_R] at a1
    refine ⟨h, Or.inl ⟨?_, r1⟩⟩
    by_cases q : inX ws 1 20
    · exact Or.inr (fun q2 => a1 ⟨q, q2⟩)
    · exact Or.inl q
  · rw [g106_R, Classical.not_not] at a1
    have w1 : 1 ≤ ws.toInt := a1.1.1
    obtain ⟨rv, q1, I1, kw⟩ := kwkX h hI (by omega) a1.1 a1.2 H1
    rw [rv] at H
    have t1 : (1 : Int32).toInt = 1 := rfl
    obtain ⟨rm, rv2⟩ := waix_l q1 a1.1 kw ws.toInt.toNat 1 1 276 none (by omega) (by decide) (Or.inl (by decide)) (wai_17 q1.sq H)
    rw [rm]
    refine ⟨q1, Or.inr ⟨fun q => q.elim (fun q => q a1.1) (fun q => q a1.2), ?_⟩⟩
    rw [rv2]
    obtain ⟨k, hk⟩ : ∃ k, ws.toInt.toNat = k + 1 := ⟨ws.toInt.toNat - 1, by omega⟩
    rw [hk]
    unfold waiL
    obtain ⟨s1, s2, s3, s4⟩ := waiS_lt (T := T) (ws := ws) (t := t) (w := 1) hD hK (by decide) (by decide)
    have t276 : (276 : Int32).toInt = 276 := rfl
    rw [if_pos (Or.inr (Int32.lt_iff_toInt_lt.mpr (by rw [s1, t276]; omega))), if_pos (Or.inl (by decide))]
end CPAV
/-! THE CLASS'S rests -/
section CRST
variable {e B n tt wn xn yn : Nat} {T : TS} {P P0 Q : PK} {PI : Nat → PK} {M M1 M' : Mem} {v : Option Value} {x y t w : Int32} {f g : Nat → Bool}
theorem ni_1 : ∀ c, c < 256 → (nI c &&& 1) = nI (c % 2) := by decide +kernel
theorem ctW_0 : ∀ (r i : Nat), ctW f r i = 0 ↔ ∀ t, t < r → f (i + t) = false := by
  intro r
  induction r with
  | zero => intro i; exact ⟨fun _ t ht => absurd ht (Nat.not_lt_zero t), fun _ => rfl⟩
  | succ r ih =>
    intro i
    unfold ctW
    constructor
    · intro h t ht
      have h1 : ctW f r (i + 1) = 0 := by omega
      have h2 : f i = false := by
        cases hf : f i with
        | false => rfl
        | true => rw [hf, if_pos rfl] at h; omega
      cases t with
      | zero => exact h2
      | succ t =>
        have q := (ih (i + 1)).mp h1 t (by omega)
        rw [show i + (t + 1) = i + 1 + t by omega]
        exact q
    · intro h
      have h0 := h 0 (by omega)
      rw [Nat.add_zero] at h0
      rw [h0, (ih (i + 1)).mpr (fun t ht => by
        rw [show i + 1 + t = i + (t + 1) by omega]
        exact h (t + 1) (by omega))]
      rfl
theorem samB_iff {q : TQ} : ∀ (r cn : Nat), cn + r ≤ 256 → (samB q P Q r (nI cn) = true ↔ ∀ k, cn ≤ k → k < cn + r → wrnB q P (nI k) = wrnB q Q (nI k)) := by
  intro r
  induction r with
  | zero => intro cn _; exact ⟨fun _ k h1 h2 => by omega, fun _ => rfl⟩
  | succ r ih =>
    intro cn hc
    unfold samB
    rw [nI_p1 (by omega)]
    by_cases h : wrnB q P (nI cn) = wrnB q Q (nI cn)
    · rw [if_pos h, ih (cn + 1) (by omega)]
      constructor
      · intro hk k h1 h2
        by_cases hq : k = cn
        · rw [hq]; exact h
        · exact hk k (by omega) (by omega)
      · intro hk k h1 h2
        exact hk k (by omega) (by omega)
    · rw [if_neg h]
      exact ⟨fun q => (by cases q), fun hk => absurd (hk cn (Nat.le_refl _) (by omega)) h⟩
theorem sam_ct (h : clsP P ≤ 256) (hQ : clsP Q = clsP P) : samN (T 0) P Q = true ↔ (ctW (fun c => nwB T P c && !nwB T Q c) 256 0 = 0 ∧ ctW (fun c => nwB T Q c && !nwB T P c) 256 0 = 0) := by
  have e : samN (T 0) P Q = samB (T 0) P Q (clsP P) (nI 0) := rfl
  rw [e, samB_iff (clsP P) 0 (by omega), ctW_0, ctW_0]
  constructor
  · intro hk
    have al : ∀ c, nwB T P c = nwB T Q c := fun c => by
      unfold nwB
      rw [hQ]
      by_cases q : c < clsP P
      · rw [hk c (Nat.zero_le _) (by omega)]
      · rw [decide_eq_false q, Bool.false_and, Bool.false_and]
    refine ⟨fun t _ => ?_, fun t _ => ?_⟩
    · rw [al]; cases nwB T Q (0 + t) <;> rfl
    · rw [al]; cases nwB T Q (0 + t) <;> rfl
  · rintro ⟨h1, h2⟩ k _ hk
    have a := h1 k (by omega)
    have b := h2 k (by omega)
    rw [Nat.zero_add] at a b hk
    have e1 : nwB T P k = wrnB (T 0) P (nI k) := by
      unfold nwB
      rw [decide_eq_true hk, Bool.true_and]
    have e2 : nwB T Q k = wrnB (T 0) Q (nI k) := by
      unfold nwB
      rw [hQ, decide_eq_true hk, Bool.true_and]
    rw [e1, e2] at a b
    cases hp : wrnB (T 0) P (nI k) <;> cases hq : wrnB (T 0) Q (nI k) <;> rw [hp, hq] at a b <;> simp at a b ⊢
theorem sum_0 {p q : Int32} (hp : 0 ≤ p.toInt) (hq : 0 ≤ q.toInt) (hp2 : p.toInt ≤ 256) (hq2 : q.toInt ≤ 256) : p + q = 0 ↔ p.toInt = 0 ∧ q.toInt = 0 := by
  have s : (p + q).toInt = p.toInt + q.toInt := i32_add (by omega) (by omega)
  constructor
  · intro h
    rw [h] at s
    have z : (0 : Int32).toInt = 0 := rfl
    omega
  · rintro ⟨a, b⟩
    exact Int32.toInt_inj.mp (by rw [s, a, b]; rfl)
theorem rsx_l (ht : t.toInt = (tt : Int)) (t200 : tt ≤ 200) (he : 8 ≤ e) : ∀ (r n : Nat) (nz : Int32) (B : Nat) (Q : PK) (M : Mem), TRI T P0 PI B (-1) [] Q M → INV M → KW M ((n + 1) % 2) (nwB T Q) → nz.toInt = (n : Int) → 1 ≤ n → nz.toInt + (r : Int) = w.toInt + 1 → w.toInt ≤ 40 → B + 60 * tt * r ≤ 100000000 → Ev none e 99 38 [some (.ref 0), some (.int w), some (.int t), some (.int nz)] [] M v M' 0 0 → v = some (.int (restL T tt r nz Q)) := by
  intro r
  induction r with
  | zero =>
    intro n nz B Q M h hI hK hz h1 hw w40 hB H
    rcases rsc_38 h.2.1.sq H with ⟨_, r1, r2⟩ | ⟨a1, _⟩
    · exact r1
    · exact absurd (Int32.lt_iff_toInt_lt.mpr (by omega)) a1
  | succ r ih =>
    intro n nz B Q M h hI hK hz h1 hw w40 hB H
    rcases rsc_38 h.2.1.sq H with ⟨a1, _⟩ | ⟨_, e1, v1, M1, he1, H1, H⟩
    · have := Int32.lt_iff_toInt_lt.mp a1
      omega
    · have hm : 60 * tt * (r + 1) = 60 * tt * r + 60 * tt := by rw [Nat.mul_add, Nat.mul_one]
      have n40 : n ≤ 40 := by omega
      have tz := hz
      have hz : nz = nI n := Int32.toInt_inj.mp (by rw [nI_toInt (by omega)]; exact tz)
      obtain ⟨I1, j1⟩ := onkJ hI (by omega) H1
      obtain ⟨rv, q1, _⟩ := onk_ok h (n := tt) (by omega) ht H1
      rw [rv] at H
      have hD := h.2.2.2.1
      have hKq := h.2.2.2.2.1
      obtain ⟨e2, v2, M2, he2, H2, H⟩ := rsc_48 q1.2.1.sq H
      rw [hz, ni_1 n (by omega)] at H2
      obtain ⟨rv2, I2, q2, k2, k3⟩ := keepX q1 I1 (by omega) (nI_toInt (show n % 2 < 2147483648 by omega)) (by omega) H2
      rw [rv2] at H
      have kQ : KW M2 ((n + 1) % 2) (nwB T Q) := ((hK.eq (fun j hj => j1 _)).eq (fun j hj => k3 _ (by omega)))
      obtain ⟨_, c256, _⟩ := cls_int hD.1
      have hcl : clsP (wksP T tt Q) = clsP Q := wks_cls hD hKq
      -- which of the two lies where
      obtain ⟨f0, f1, K0, K1, hs⟩ : ∃ f0 f1 : Nat → Bool, KW M2 0 f0 ∧ KW M2 1 f1 ∧ ((ctW (fun c => f0 c && !f1 c) 256 0 = 0 ∧ ctW (fun c => f1 c && !f0 c) 256 0 = 0) ↔ samN (T 0) Q (wksP T tt Q) = true) := by
        rcases Nat.mod_two_eq_zero_or_one n with q | q
        · have q2 : (n + 1) % 2 = 1 := by omega
          rw [q] at k2
          rw [q2] at kQ
          refine ⟨_, _, k2, kQ, ?_⟩
          rw [sam_ct c256 hcl]
          exact ⟨fun h => ⟨h.2, h.1⟩, fun h => ⟨h.2, h.1⟩⟩
        · have q2 : (n + 1) % 2 = 0 := by omega
          rw [q] at k2
          rw [q2] at kQ
          refine ⟨_, _, kQ, k2, ?_⟩
          rw [sam_ct c256 hcl]
      obtain ⟨e3, v3, M3, he3, H3, H⟩ := rsc_58 q2.2.1.sq H
      obtain ⟨rm3, p, rv3, hp⟩ := alone_ok q2.2.1.sq (xn := 0) (yn := 1) rfl (by decide) K0 rfl (by decide) K1 H3
      rw [rm3, rv3] at H
      obtain ⟨e4, v4, M4, he4, H4, H⟩ := rsc_67 q2.2.1.sq H
      obtain ⟨rm4, q4, rv4, hq⟩ := alone_ok q2.2.1.sq (xn := 1) (yn := 0) rfl (by decide) K1 rfl (by decide) K0 H4
      rw [rm4, rv4] at H
      have l1 := ctW_le (f := fun c => f0 c && !f1 c) 256 0
      have l2 := ctW_le (f := fun c => f1 c && !f0 c) 256 0
      have s0 := sum_0 (p := p) (q := q4) (by omega) (by omega) (by omega) (by omega)
      unfold restL
      rcases rsc_76 q2.2.1.sq H with ⟨b1, r1, _⟩ | ⟨b1, H⟩
      · rw [s0] at b1
        rw [if_pos (hs.mp ⟨by omega, by omega⟩)]
        exact r1
      · rw [if_neg (fun q => by
          obtain ⟨a, b⟩ := hs.mpr q
          exact b1 (s0.mpr ⟨by omega, by omega⟩))]
        refine ih (n + 1) (nz + 1) (B + 60 * tt) _ M2 q2 I2 ?_ (by rw [i32_p1 (by omega)]; omega) (by omega) (by rw [i32_p1 (by omega)]; omega) w40 (by omega) H
        have e2 : (n + 1 + 1) % 2 = n % 2 := by omega
        rw [e2]
        exact k2
theorem rests_ok (h : CST T P PI M) (hI : INV M) (he : 9 ≤ e) (H : Ev none e 99 0 [some (.ref 0), some (.int w), some (.int t), none] [] M v M' 0 0) : (rstN w t ∧ v = some (.int (-2)) ∧ CST T P PI M') ∨ (¬ rstN w t ∧ v = some (.int (restL T t.toInt.toNat w.toInt.toNat 1 P)) ∧ CST T P PI M') := by
  have hS := restsS_ok h hI he H
  unfold rstN
  rcases rsc_0 h.sq H with ⟨a1, r1, _⟩ | ⟨_, a1, r1, _⟩ | ⟨a1, a2, e1, v1, M1, he1, H1, H⟩
  · rw [g126_R] at a1
    exact Or.inl ⟨Or.inl a1, r1, hS⟩
  · rw [g126_R] at a1
    exact Or.inl ⟨Or.inr a1, r1, hS⟩
  · rw [g126_R, Classical.not_not] at a1 a2
    have w1 : 1 ≤ w.toInt := a1.1
    have w40 : w.toInt ≤ 40 := a1.2
    have t1 : 1 ≤ t.toInt := a2.1
    have t200 : t.toInt ≤ 200 := a2.2
    obtain ⟨rv, q1, _⟩ := opcT_ok h H1
    rw [rv] at H
    have I1 := opcI hI (by omega) H1
    obtain ⟨e2, v2, M2, he2, H2, H⟩ := rsc_28 q1.2.1.sq H
    obtain ⟨rv2, I2, q2, k2, _⟩ := keepX (xn := 0) q1 I1 (by omega) rfl (by decide) H2
    rw [rv2] at H
    have hb := h.ok.bud
    have hm : 60 * t.toInt.toNat * w.toInt.toNat ≤ 60 * 200 * 40 := Nat.mul_le_mul (Nat.mul_le_mul_left _ (by omega)) (by omega)
    have tz : (1 : Int32).toInt = 1 := rfl
    exact Or.inr ⟨fun q => q.elim (fun q => q a1) (fun q => q a2), rsx_l (T := T) (tt := t.toInt.toNat) (by omega) (by omega) (by omega) w.toInt.toNat 1 1 _ P M2 q2 I2 k2 rfl (Nat.le_refl _) (by omega) w40 (by omega) (rsc_36 q2.2.1.sq H), hS⟩
end CRST
/-! BOTH SIDES BESIDE EACH OTHER: the whole state (made by gprs.py) -/
theorem rne_0 {e : Nat} {M M' : Mem} {v : Option Value} (hS : SQ M) (H : Ev none e 217 0 [some (.ref 633)] [] M v M' 0 0) : (∃ e1 v1 M1, e = e1 + 1 ∧ Ev none e1 216 0 [some (.ref 633), none, none] [] (wF M 633 0 0) v1 M1 0 0 ∧ Ev none e 217 9 [some (.ref 633)] (v1.toList ++ []) M1 v M' 0 0) := by
  have H : Ev none e 217 2 [some (.ref 633)] [.int 0, .ref 633] M v M' 0 0 := Ev.back 2 (fun n => rfl) H
  obtain ⟨N2, eN2⟩ : ∃ N, N = (wF M 633 0 0) := ⟨_, rfl⟩
  have hN2 : SQ N2 := by rw [eN2]; exact hS.kf
  have H : Ev none e 217 5 [some (.ref 633)] [] N2 v M' 0 0 := by rw [eN2]; exact Ev.pfi rfl rfl rfl hS.1 qa_633 qi_61_0 H
  have H : Ev none e 217 6 [some (.ref 633)] [.ref 633] N2 v M' 0 0 := Ev.back 1 (fun n => rfl) H
  obtain ⟨e1, rfl⟩ := Ev.dpos rfl rfl H
  obtain ⟨vK3, MK3, K3, H⟩ := Ev.callb (fun n_ => gs_7 rfl rfl (show gCal (.invokevirtual 429) 11 (.ref 633 :: []) N2 = some (.inr (216, [some (.ref 633), none, none], [])) from by show @cond (Option ((List Value × Mem) ⊕ (Nat × Lo × List Value))) (true && gRecv N2 (.ref 633) 11 && gRoom [] && true) (some (.inr (216, [some (.ref 633), none, none], []))) none = _; rw [recv_s hN2.1 qa_633 qo_61]; rfl)) H
  have K3 : Ev none e1 216 0 [some (.ref 633), none, none] [] N2 vK3 MK3 0 0 := K3
  have HF := H
  subst eN2
  exact ⟨e1, vK3, MK3, rfl, K3, HF⟩
theorem rne_9 {e : Nat} {M M' : Mem} {v : Option Value} {r : Int32} (hS : SQ M) (H : Ev none e 217 9 [some (.ref 633)] [.int r] M v M' 0 0) : v = some (.int r) ∧ M' = M := by
  obtain ⟨z1, z2⟩ := Ev.retz rfl rfl H
  exact ⟨z1, z2⟩
def S7 (T : TS) (P : PK) (PI : Nat → PK) (M : Mem) : Prop := CST T P PI M ∧ TXd M ∧ RST T P M ∧ RIM PI M
def B6 (z w y q : Int32) (l lb lt : List Int32) (M : Mem) : Prop := INV M ∧ FX M ∧ LC z M ∧ LR w M ∧ KC l M ∧ KR l M ∧ BC lb M ∧ BR lt M ∧ FCq y M ∧ FRq q M
def SV7 (M : Mem) : Prop := ∃ z y l lb lt T P PI, B6 z z y y l lb lt M ∧ BBp z.toInt.toNat lb lt ∧ S7 T P PI M
noncomputable def txdB (md : Md) : Bool := (!mdIn md 7 2) && ((!mdIn md 7 3) && mdC md [1027])
noncomputable def c7B (zz ff : Bool) (cn : CN) : Bool := ((invC cn && relC zz cn) && byB cn) && ((ff || !mdIn cn.2.2.2.2.2.1 10 15) && (!mdIn cn.2.2.2.2.2.1 11 26 && (fxM cn.2.2.2.2.2.1 && (rstB cn.2.2.2.2.2.1 && rimB cn.2.2.2.2.2.1))))
noncomputable def r7B (zz ff : Bool) (cn : CN) : Bool := ((invC cn && relR zz cn) && byB cn) && ((ff || !mdIn cn.2.2.2.2.2.1 11 26) && (!mdIn cn.2.2.2.2.2.1 10 15 && (fxM cn.2.2.2.2.2.1 && (cstB cn.2.2.2.2.2.1 && txdB cn.2.2.2.2.2.1))))
set_option maxRecDepth 200000 in
theorem f42_ok : fiB 61 11 42 0 1 = true := by decide +kernel
section REL7
variable {z w y q a b : Int32} {l lb lt : List Int32} {T T' : TS} {P Q : PK} {PI : Nat → PK} {M M1 M2 M' : Mem} {cn : CN} {k e : Nat} {ws : List Value} {v v1 v2 : Option Value} {A A' : Prop} {C R : PK → Prop}
theorem SV7.six (h : SV7 M) : SV6 M := by
  obtain ⟨z, y, l, lb, lt, T, P, PI, ⟨a1, a2, a3, a4, a5, a6, a7, a8, a9, a10⟩, hN, _⟩ := h
  exact ⟨a1, a2, z, y, l, lb, lt, a3, a4, a5, a6, a7, a8, hN, a9, a10⟩
theorem b42 (hV : INV M) : ∃ b, zI M 633 42 = bI b := by
  obtain ⟨h0, h1⟩ := hV.1.zIn qa_633 f42_ok
  rcases (show (zI M 633 42).toInt = 0 ∨ (zI M 633 42).toInt = 1 by omega) with h | h
  · exact ⟨false, Int32.toInt_inj.mp h⟩
  · exact ⟨true, Int32.toInt_inj.mp h⟩
set_option maxRecDepth 200000 in
theorem tl_f : fiB 1 5 1 0 440 = true ∧ fiB 61 11 2 0 440 = true := by constructor <;> decide +kernel
theorem tpn (hV : INV M) : (zI M 1 1).toInt = ((zI M 1 1).toInt.toNat : Int) := by
  have := (hV.1.zIn qa_1 tl_f.1).1
  omega
theorem tpm (hV : INV M) : (zI M 633 2).toInt = ((zI M 633 2).toInt.toNat : Int) := by
  have := (hV.1.zIn qa_633 tl_f.2).1
  omega
theorem rel_c7 (zz ff : Bool) (hok : cnOK sT sG FL0 cn) (hB : c7B zz ff cn = true) (hm : (gNth mRs cn.1).map (fun q => q.2.2.2.1) = some k) (hd : cn.2.1 ≤ 999) (ha : Two (taOK sT) cn.2.2.1 ws) (h : B6 z w y q l lb lt M) (hR7 : RST T P M) (hI7 : RIM PI M) : ∃ v M' y', Ev none 999 cn.1 0 (gPad k (gArgs ws)) [] M v M' 0 0 ∧ (∃ s ∈ cn.2.2.2.2.2.2, csOK sT FL0 ws v M' s) ∧ Frm sT cn.2.2.2.2.2.1 M M' ∧ B6 (bif zz then 0 else z) w y' q l lb lt M' ∧ (ff = false → y' = y) ∧ RST T P M' ∧ RIM PI M' := by
  obtain ⟨hV, hX, hC, hR, hK, hL, hP, hQ, hF, hG⟩ := h
  obtain ⟨hB, hf⟩ := and_t hB
  obtain ⟨f1, hf⟩ := and_t hf
  obtain ⟨f2, hf⟩ := and_t hf
  obtain ⟨f3, hf⟩ := and_t hf
  obtain ⟨f4, f5⟩ := and_t hf
  obtain ⟨hB, hb⟩ := and_t hB
  obtain ⟨hB, hr⟩ := and_t hB
  obtain ⟨r1, r2⟩ := and_t hr
  obtain ⟨r2, r3⟩ := and_t r2
  obtain ⟨r3, r4⟩ := and_t r3
  obtain ⟨b1, b2⟩ := and_t hb
  obtain ⟨v, M', h1, h2, h3, h4⟩ := inv_f hok hB hm hd ha hV
  have hX' := hX.frm hV.1.sh h3 f3
  refine ⟨v, M', zI M' 0 15, h1, h4, h3, ⟨h2, hX', ?_, hR.frm h3 (md_no r2), hK.frm h3 (md_no r3), hL.frm h3 (md_no r4), hP.frm h3 (md_no b1), hQ.frm h3 (md_no b2), FCq.of h2.1.sh rfl, hG.frm h3 (md_no f2)⟩, fun e => ?_, hR7.frm ⟨h2.1.sh, hX'⟩ h3 f4, hI7.frm hV.1.sh h3 f5⟩
  · cases zz with
    | true => exact zeB_V r1 h4
    | false => exact hC.frm h3 (md_no r1)
  · subst e
    exact (hF.frm h3 (md_no f1)).zi
theorem rel_r7 (zz ff : Bool) (hok : cnOK sT sG FL0 cn) (hB : r7B zz ff cn = true) (hm : (gNth mRs cn.1).map (fun q => q.2.2.2.1) = some k) (hd : cn.2.1 ≤ 999) (ha : Two (taOK sT) cn.2.2.1 ws) (h : B6 z w y q l lb lt M) : ∃ v M' q', Ev none 999 cn.1 0 (gPad k (gArgs ws)) [] M v M' 0 0 ∧ (∃ s ∈ cn.2.2.2.2.2.2, csOK sT FL0 ws v M' s) ∧ Frm sT cn.2.2.2.2.2.1 M M' ∧ B6 z (bif zz then 0 else w) y q' l lb lt M' ∧ (ff = false → q' = q) ∧ (∀ {T : TS} {P : PK} {PI : Nat → PK}, CST T P PI M → CST T P PI M') ∧ (TXd M → TXd M') := by
  obtain ⟨hV, hX, hC, hR, hK, hL, hP, hQ, hF, hG⟩ := h
  obtain ⟨hB, hf⟩ := and_t hB
  obtain ⟨f1, hf⟩ := and_t hf
  obtain ⟨f2, hf⟩ := and_t hf
  obtain ⟨f3, hf⟩ := and_t hf
  obtain ⟨f4, f5⟩ := and_t hf
  obtain ⟨hB, hb⟩ := and_t hB
  obtain ⟨hB, hr⟩ := and_t hB
  obtain ⟨r1, r2⟩ := and_t hr
  obtain ⟨r2, r3⟩ := and_t r2
  obtain ⟨r3, r4⟩ := and_t r3
  obtain ⟨b1, b2⟩ := and_t hb
  obtain ⟨v, M', h1, h2, h3, h4⟩ := inv_f hok hB hm hd ha hV
  have hX' := hX.frm hV.1.sh h3 f3
  refine ⟨v, M', zI M' 633 26, h1, h4, h3, ⟨h2, hX', hC.frm h3 (md_no r2), ?_, hK.frm h3 (md_no r3), hL.frm h3 (md_no r4), hP.frm h3 (md_no b1), hQ.frm h3 (md_no b2), hF.frm h3 (md_no f2), FRq.of h2.1.sh rfl⟩, fun e => ?_, fun hc => hc.frm ⟨h2.1.sh, hX'⟩ h3 f4, fun hd => hd.frm hV.1.sh h3 f5⟩
  · cases zz with
    | true => exact zeB_V r1 h4
    | false => exact hR.frm h3 (md_no r1)
  · subst e
    exact (hG.frm h3 (md_no f1)).zi
theorem al2 (hx : A → A' → False) (h1 : (A ∧ v1 = some (.int a) ∧ C P) ∨ (A' ∧ v1 = some (.int b) ∧ C Q)) (h2 : (A ∧ v2 = some (.int a) ∧ R P) ∨ (A' ∧ v2 = some (.int b) ∧ R Q)) : ∃ r X, v1 = some (.int r) ∧ v2 = some (.int r) ∧ C X ∧ R X := by
  rcases h1 with ⟨c1, e1, k1⟩ | ⟨c1, e1, k1⟩ <;> rcases h2 with ⟨c2, e2, k2⟩ | ⟨c2, e2, k2⟩
  · exact ⟨a, P, e1, e2, k1, k2⟩
  · exact absurd (hx c1 c2) id
  · exact absurd (hx c2 c1) id
  · exact ⟨b, Q, e1, e2, k1, k2⟩
theorem mM (h : (A ∧ v = some (.int a) ∧ M' = M) ∨ (A' ∧ v = some (.int b) ∧ CST T Q PI M')) (hC : CST T P PI M) : (A ∧ v = some (.int a) ∧ CST T P PI M') ∨ (A' ∧ v = some (.int b) ∧ CST T Q PI M') := by
  rcases h with ⟨h1, h2, h3⟩ | h
  · rw [h3]
    exact Or.inl ⟨h1, h2, hC⟩
  · exact Or.inr h
theorem mR {B : Prop} (h : (A ∧ v = some (.int a) ∧ RST T P M) ∨ (A' ∧ v = some (.int b) ∧ RST T Q M ∧ B)) : (A ∧ v = some (.int a) ∧ RST T P M) ∨ (A' ∧ v = some (.int b) ∧ RST T Q M) := by
  rcases h with h | ⟨h1, h2, h3, _⟩
  · exact Or.inl h
  · exact Or.inr ⟨h1, h2, h3⟩
theorem mTt {B : Prop} (h : CST T P PI M ∧ B ∧ ((A ∧ v = some (.int a)) ∨ (A' ∧ v = some (.int b)))) : (A ∧ v = some (.int a) ∧ CST T P PI M) ∨ (A' ∧ v = some (.int b) ∧ CST T P PI M) := by
  obtain ⟨h1, _, h2⟩ := h
  rcases h2 with ⟨h2, h3⟩ | ⟨h2, h3⟩
  · exact Or.inl ⟨h2, h3, h1⟩
  · exact Or.inr ⟨h2, h3, h1⟩
theorem mC (h : CST T P PI M ∧ ((A ∧ v = some (.int a)) ∨ (A' ∧ v = some (.int b)))) : (A ∧ v = some (.int a) ∧ CST T P PI M) ∨ (A' ∧ v = some (.int b) ∧ CST T P PI M) := by
  obtain ⟨h1, h2⟩ := h
  rcases h2 with ⟨h2, h3⟩ | ⟨h2, h3⟩
  · exact Or.inl ⟨h2, h3, h1⟩
  · exact Or.inr ⟨h2, h3, h1⟩
theorem mTr (h : RST T P M ∧ ((A ∧ v = some (.int a)) ∨ (A' ∧ v = some (.int b)))) : (A ∧ v = some (.int a) ∧ RST T P M) ∨ (A' ∧ v = some (.int b) ∧ RST T P M) := by
  obtain ⟨h1, h2⟩ := h
  rcases h2 with ⟨h2, h3⟩ | ⟨h2, h3⟩
  · exact Or.inl ⟨h2, h3, h1⟩
  · exact Or.inr ⟨h2, h3, h1⟩
theorem rnet_ok (hR : RST T P M) (hD : okD P) (H : Ev none e 217 0 [some (.ref 633)] [] M v M' 0 0) : v = some (.int (nwP (T 0) P)) ∧ RST T P M' := by
  obtain ⟨e1, v1, M1, _, H1, H⟩ := rne_0 hR.1 H
  have h0 := hR.w0 0 (by decide) 0
  obtain ⟨rm, rv⟩ := rwmn_ok h0 hD.1 H1
  rw [rm, rv] at H
  obtain ⟨r1, r2⟩ := rne_9 h0.1 H
  rw [r2]
  exact ⟨r1, h0⟩
set_option maxRecDepth 200000 in
theorem pj_3 {x1 : Int32} (hS : SV7 M) : ∃ r M1 M2, Ev none 999 84 0 [some (.ref 0), some (.int x1)] [] M (some (.int r)) M1 0 0 ∧ Ev none 999 156 0 [some (.ref 633), some (.int x1)] [] M1 (some (.int r)) M2 0 0 ∧ INV M1 ∧ SV7 M2 := by
  obtain ⟨z, y, l, lb, lt, T, P, PI, hB, hN, hC, hD, hR, hI⟩ := hS
  obtain ⟨v1, M1, y1, E1, s1, F1, B1, f1, R1, I1⟩ := rel_c7 (cn := kX10_door) (k := 2) (ws := [.ref 0, .int x1]) false false kX10_door_ok (by decide +kernel) (by decide +kernel) (by decide) (Two.mk rfl (Two.mk ⟨x1, rfl, i32_any x1⟩ trivial)) hB hR hI
  cases f1 rfl
  have D1 : TXd M1 := hD.frm hB.1.1.sh F1 (by decide +kernel)
  have S1 : SQ M1 := ⟨B1.1.1.sh, B1.2.1⟩
  obtain ⟨v2, M2, y2, E2, s2, F2, B2, f2, K2, D2⟩ := rel_r7 (cn := kX11_door) (k := 2) (ws := [.ref 633, .int x1]) false false kX11_door_ok (by decide +kernel) (by decide +kernel) (by decide) (Two.mk rfl (Two.mk ⟨x1, rfl, i32_any x1⟩ trivial)) B1
  cases f2 rfl
  have S2 : SQ M2 := ⟨B2.1.1.sh, B2.2.1⟩
  have I2 : RIM PI M2 := I1.frm B1.1.1.sh F2 (by decide +kernel)
  obtain ⟨r, X, rfl, rfl, C1, R2⟩ := al2 (C := fun X => CST T X PI M1) (R := fun X => RST T X M2) (fun a b => b a) (mM (door_ok hC E1) hC) (rdoor_ok R1 hC.ok.1 E2)
  exact ⟨r, M1, M2, E1, E2, B1.1, ⟨z, y, l, lb, lt, T, X, PI, B2, hN, K2 C1, D2 D1, R2, I2⟩⟩
set_option maxRecDepth 200000 in
theorem pj_6 (hS : SV7 M) : ∃ r M1 M2, Ev none 999 88 0 [some (.ref 0)] [] M (some (.int r)) M1 0 0 ∧ Ev none 999 185 0 [some (.ref 633)] [] M1 (some (.int r)) M2 0 0 ∧ INV M1 ∧ SV7 M2 := by
  obtain ⟨z, y, l, lb, lt, T, P, PI, hB, hN, hC, hD, hR, hI⟩ := hS
  obtain ⟨v1, M1, y1, E1, s1, F1, B1, f1, R1, I1⟩ := rel_c7 (cn := kX10_fault) (k := 1) (ws := [.ref 0]) false false kX10_fault_ok (by decide +kernel) (by decide +kernel) (by decide) (Two.mk rfl trivial) hB hR hI
  cases f1 rfl
  have D1 : TXd M1 := hD.frm hB.1.1.sh F1 (by decide +kernel)
  have S1 : SQ M1 := ⟨B1.1.1.sh, B1.2.1⟩
  obtain ⟨v2, M2, y2, E2, s2, F2, B2, f2, K2, D2⟩ := rel_r7 (cn := kX11_fault) (k := 1) (ws := [.ref 633]) false false kX11_fault_ok (by decide +kernel) (by decide +kernel) (by decide) (Two.mk rfl trivial) B1
  cases f2 rfl
  have S2 : SQ M2 := ⟨B2.1.1.sh, B2.2.1⟩
  have I2 : RIM PI M2 := I1.frm B1.1.1.sh F2 (by decide +kernel)
  obtain ⟨rfl, C1⟩ := (show v1 = some (.int y) ∧ CST T P PI M1 from ⟨flt6C hB.1 hB.2.1 hB.2.2.2.2.2.2.2.2.1 E1, hC.frm S1 F1 (by decide +kernel)⟩)
  obtain ⟨rfl, R2⟩ := (show v2 = some (.int y) ∧ RST T P M2 from ⟨flt6R B1.1 B1.2.1 B1.2.2.2.2.2.2.2.2.2 E2, R1.frm S2 F2 (by decide +kernel)⟩)
  exact ⟨_, M1, M2, E1, E2, B1.1, ⟨z, y, l, lb, lt, T, _, PI, B2, hN, K2 C1, D2 D1, R2, I2⟩⟩
set_option maxRecDepth 200000 in
theorem pj_7 {x1 x2 x3 x4 x5 : Int32} (hS : SV7 M) : ∃ r M1 M2, Ev none 999 89 0 [some (.ref 0), some (.int x1), some (.int x2), some (.int x3), some (.int x4), some (.int x5), none] [] M (some (.int r)) M1 0 0 ∧ Ev none 999 190 0 [some (.ref 633), some (.int x1), some (.int x2), some (.int x3), some (.int x4), some (.int x5), none] [] M1 (some (.int r)) M2 0 0 ∧ INV M1 ∧ SV7 M2 := by
  obtain ⟨z, y, l, lb, lt, T, P, PI, hB, hN, hC, hD, hR, hI⟩ := hS
  obtain ⟨v1, M1, y1, E1, s1, F1, B1, f1, R1, I1⟩ := rel_c7 (cn := kX10_wish) (k := 7) (ws := [.ref 0, .int x1, .int x2, .int x3, .int x4, .int x5]) false false kX10_wish_ok (by decide +kernel) (by decide +kernel) (by decide) (Two.mk rfl (Two.mk ⟨x1, rfl, i32_any x1⟩ (Two.mk ⟨x2, rfl, i32_any x2⟩ (Two.mk ⟨x3, rfl, i32_any x3⟩ (Two.mk ⟨x4, rfl, i32_any x4⟩ (Two.mk ⟨x5, rfl, i32_any x5⟩ trivial)))))) hB hR hI
  cases f1 rfl
  have D1 : TXd M1 := hD.frm hB.1.1.sh F1 (by decide +kernel)
  have S1 : SQ M1 := ⟨B1.1.1.sh, B1.2.1⟩
  obtain ⟨v2, M2, y2, E2, s2, F2, B2, f2, K2, D2⟩ := rel_r7 (cn := kX11_wish) (k := 7) (ws := [.ref 633, .int x1, .int x2, .int x3, .int x4, .int x5]) false false kX11_wish_ok (by decide +kernel) (by decide +kernel) (by decide) (Two.mk rfl (Two.mk ⟨x1, rfl, i32_any x1⟩ (Two.mk ⟨x2, rfl, i32_any x2⟩ (Two.mk ⟨x3, rfl, i32_any x3⟩ (Two.mk ⟨x4, rfl, i32_any x4⟩ (Two.mk ⟨x5, rfl, i32_any x5⟩ trivial)))))) B1
  cases f2 rfl
  have S2 : SQ M2 := ⟨B2.1.1.sh, B2.2.1⟩
  have I2 : RIM PI M2 := I1.frm B1.1.1.sh F2 (by decide +kernel)
  obtain ⟨r, X, rfl, rfl, C1, R2⟩ := al2 (C := fun X => CST T X PI M1) (R := fun X => RST T X M2) (fun a b => b a) (mM (wish_ok hC E1) hC) (rwish_ok R1 hC.ok.1 E2)
  exact ⟨r, M1, M2, E1, E2, B1.1, ⟨z, y, l, lb, lt, T, X, PI, B2, hN, K2 C1, D2 D1, R2, I2⟩⟩
set_option maxRecDepth 200000 in
theorem pj_8 {x1 : Int32} (hS : SV7 M) : ∃ r M1 M2, Ev none 999 90 0 [some (.ref 0), some (.int x1)] [] M (some (.int r)) M1 0 0 ∧ Ev none 999 191 0 [some (.ref 633), some (.int x1)] [] M1 (some (.int r)) M2 0 0 ∧ INV M1 ∧ SV7 M2 := by
  obtain ⟨z, y, l, lb, lt, T, P, PI, hB, hN, hC, hD, hR, hI⟩ := hS
  obtain ⟨v1, M1, y1, E1, s1, F1, B1, f1, R1, I1⟩ := rel_c7 (cn := kX10_drop) (k := 2) (ws := [.ref 0, .int x1]) false false kX10_drop_ok (by decide +kernel) (by decide +kernel) (by decide) (Two.mk rfl (Two.mk ⟨x1, rfl, i32_any x1⟩ trivial)) hB hR hI
  cases f1 rfl
  have D1 : TXd M1 := hD.frm hB.1.1.sh F1 (by decide +kernel)
  have S1 : SQ M1 := ⟨B1.1.1.sh, B1.2.1⟩
  obtain ⟨v2, M2, y2, E2, s2, F2, B2, f2, K2, D2⟩ := rel_r7 (cn := kX11_drop) (k := 2) (ws := [.ref 633, .int x1]) false false kX11_drop_ok (by decide +kernel) (by decide +kernel) (by decide) (Two.mk rfl (Two.mk ⟨x1, rfl, i32_any x1⟩ trivial)) B1
  cases f2 rfl
  have S2 : SQ M2 := ⟨B2.1.1.sh, B2.2.1⟩
  have I2 : RIM PI M2 := I1.frm B1.1.1.sh F2 (by decide +kernel)
  obtain ⟨r, X, rfl, rfl, C1, R2⟩ := al2 (C := fun X => CST T X PI M1) (R := fun X => RST T X M2) (fun a b => a b) (mM (drop_ok hC E1) hC) (rdrop_ok R1 hC.ok.1 E2)
  exact ⟨r, M1, M2, E1, E2, B1.1, ⟨z, y, l, lb, lt, T, X, PI, B2, hN, K2 C1, D2 D1, R2, I2⟩⟩
set_option maxRecDepth 200000 in
theorem pj_9 {x1 : Int32} (hS : SV7 M) : ∃ r M1 M2, Ev none 999 91 0 [some (.ref 0), some (.int x1)] [] M (some (.int r)) M1 0 0 ∧ Ev none 999 207 0 [some (.ref 633), some (.int x1), none] [] M1 (some (.int r)) M2 0 0 ∧ INV M1 ∧ SV7 M2 := by
  obtain ⟨z, y, l, lb, lt, T, P, PI, hB, hN, hC, hD, hR, hI⟩ := hS
  obtain ⟨v1, M1, y1, E1, s1, F1, B1, f1, R1, I1⟩ := rel_c7 (cn := kX10_run) (k := 2) (ws := [.ref 0, .int x1]) false false kX10_run_ok (by decide +kernel) (by decide +kernel) (by decide) (Two.mk rfl (Two.mk ⟨x1, rfl, i32_any x1⟩ trivial)) hB hR hI
  cases f1 rfl
  have D1 : TXd M1 := hD.frm hB.1.1.sh F1 (by decide +kernel)
  have S1 : SQ M1 := ⟨B1.1.1.sh, B1.2.1⟩
  obtain ⟨v2, M2, y2, E2, s2, F2, B2, f2, K2, D2⟩ := rel_r7 (cn := kX11_run) (k := 3) (ws := [.ref 633, .int x1]) false false kX11_run_ok (by decide +kernel) (by decide +kernel) (by decide) (Two.mk rfl (Two.mk ⟨x1, rfl, i32_any x1⟩ trivial)) B1
  cases f2 rfl
  have S2 : SQ M2 := ⟨B2.1.1.sh, B2.2.1⟩
  have I2 : RIM PI M2 := I1.frm B1.1.1.sh F2 (by decide +kernel)
  obtain ⟨r, X, rfl, rfl, C1, R2⟩ := al2 (C := fun X => CST T X PI M1) (R := fun X => RST T X M2) (fun a b => b a) (mM (run_ok hC E1) hC) (mR (rrun_ok R1 hC.ok.1 hC.ok.2.1 hC.ok.2.2.1 (b42 B1.1) E2))
  exact ⟨r, M1, M2, E1, E2, B1.1, ⟨z, y, l, lb, lt, T, X, PI, B2, hN, K2 C1, D2 D1, R2, I2⟩⟩
set_option maxRecDepth 200000 in
theorem pj_10 (hS : SV7 M) : ∃ r M1 M2, Ev none 999 92 0 [some (.ref 0)] [] M (some (.int r)) M1 0 0 ∧ Ev none 999 209 0 [some (.ref 633)] [] M1 (some (.int r)) M2 0 0 ∧ INV M1 ∧ SV7 M2 := by
  obtain ⟨z, y, l, lb, lt, T, P, PI, hB, hN, hC, hD, hR, hI⟩ := hS
  obtain ⟨v1, M1, y1, E1, s1, F1, B1, f1, R1, I1⟩ := rel_c7 (cn := kX10_week) (k := 1) (ws := [.ref 0]) false false kX10_week_ok (by decide +kernel) (by decide +kernel) (by decide) (Two.mk rfl trivial) hB hR hI
  cases f1 rfl
  have D1 : TXd M1 := hD.frm hB.1.1.sh F1 (by decide +kernel)
  have S1 : SQ M1 := ⟨B1.1.1.sh, B1.2.1⟩
  obtain ⟨v2, M2, y2, E2, s2, F2, B2, f2, K2, D2⟩ := rel_r7 (cn := kX11_week) (k := 1) (ws := [.ref 633]) false false kX11_week_ok (by decide +kernel) (by decide +kernel) (by decide) (Two.mk rfl trivial) B1
  cases f2 rfl
  have S2 : SQ M2 := ⟨B2.1.1.sh, B2.2.1⟩
  have I2 : RIM PI M2 := I1.frm B1.1.1.sh F2 (by decide +kernel)
  obtain ⟨rfl, C1⟩ := week_ok hC E1
  obtain ⟨rfl, R2⟩ := rweek_ok R1 hC.ok.1 E2
  exact ⟨_, M1, M2, E1, E2, B1.1, ⟨z, y, l, lb, lt, T, _, PI, B2, hN, K2 C1, D2 D1, R2, I2⟩⟩
set_option maxRecDepth 200000 in
theorem pj_11 {x1 : Int32} (hS : SV7 M) : ∃ r M1 M2, Ev none 999 93 0 [some (.ref 0), some (.int x1), none, none] [] M (some (.int r)) M1 0 0 ∧ Ev none 999 210 0 [some (.ref 633), some (.int x1), none] [] M1 (some (.int r)) M2 0 0 ∧ INV M1 ∧ SV7 M2 := by
  obtain ⟨z, y, l, lb, lt, T, P, PI, hB, hN, hC, hD, hR, hI⟩ := hS
  obtain ⟨v1, M1, y1, E1, s1, F1, B1, f1, R1, I1⟩ := rel_c7 (cn := kX10_rain) (k := 4) (ws := [.ref 0, .int x1]) false false kX10_rain_ok (by decide +kernel) (by decide +kernel) (by decide) (Two.mk rfl (Two.mk ⟨x1, rfl, i32_any x1⟩ trivial)) hB hR hI
  cases f1 rfl
  have D1 : TXd M1 := hD.frm hB.1.1.sh F1 (by decide +kernel)
  have S1 : SQ M1 := ⟨B1.1.1.sh, B1.2.1⟩
  obtain ⟨v2, M2, y2, E2, s2, F2, B2, f2, K2, D2⟩ := rel_r7 (cn := kX11_rain) (k := 3) (ws := [.ref 633, .int x1]) false false kX11_rain_ok (by decide +kernel) (by decide +kernel) (by decide) (Two.mk rfl (Two.mk ⟨x1, rfl, i32_any x1⟩ trivial)) B1
  cases f2 rfl
  have S2 : SQ M2 := ⟨B2.1.1.sh, B2.2.1⟩
  have I2 : RIM PI M2 := I1.frm B1.1.1.sh F2 (by decide +kernel)
  obtain ⟨r, X, rfl, rfl, C1, R2⟩ := al2 (C := fun X => CST T X PI M1) (R := fun X => RST T X M2) (fun a b => a b) (mM (rain_ok hC E1) hC) (rrain_ok R1 hC.ok.1 E2)
  exact ⟨r, M1, M2, E1, E2, B1.1, ⟨z, y, l, lb, lt, T, X, PI, B2, hN, K2 C1, D2 D1, R2, I2⟩⟩
set_option maxRecDepth 200000 in
theorem pj_12 (hS : SV7 M) : ∃ M1 M2, Ev none 999 94 0 [some (.ref 0)] [] M none M1 0 0 ∧ Ev none 999 211 0 [some (.ref 633), none] [] M1 none M2 0 0 ∧ INV M1 ∧ SV7 M2 := by
  obtain ⟨z, y, l, lb, lt, T, P, PI, hB, hN, hC, hD, hR, hI⟩ := hS
  obtain ⟨v1, M1, y1, E1, s1, F1, B1, f1, R1, I1⟩ := rel_c7 (cn := kX10_snow) (k := 1) (ws := [.ref 0]) false false kX10_snow_ok (by decide +kernel) (by decide +kernel) (by decide) (Two.mk rfl trivial) hB hR hI
  cases f1 rfl
  have D1 : TXd M1 := hD.frm hB.1.1.sh F1 (by decide +kernel)
  have S1 : SQ M1 := ⟨B1.1.1.sh, B1.2.1⟩
  obtain ⟨v2, M2, y2, E2, s2, F2, B2, f2, K2, D2⟩ := rel_r7 (cn := kX11_snow) (k := 2) (ws := [.ref 633]) false false kX11_snow_ok (by decide +kernel) (by decide +kernel) (by decide) (Two.mk rfl trivial) B1
  cases f2 rfl
  have S2 : SQ M2 := ⟨B2.1.1.sh, B2.2.1⟩
  have I2 : RIM PI M2 := I1.frm B1.1.1.sh F2 (by decide +kernel)
  obtain ⟨rfl, C1⟩ := snow_ok hC E1
  obtain ⟨rfl, R2⟩ := rsnow_ok R1 hC.ok.1 E2
  exact ⟨M1, M2, E1, E2, B1.1, ⟨z, y, l, lb, lt, T, _, PI, B2, hN, K2 C1, D2 D1, R2, I2⟩⟩
set_option maxRecDepth 200000 in
theorem pj_13 {x1 x2 : Int32} (hS : SV7 M) : ∃ r M1 M2, Ev none 999 95 0 [some (.ref 0), some (.int x1), some (.int x2)] [] M (some (.int r)) M1 0 0 ∧ Ev none 999 212 0 [some (.ref 633), some (.int x1), some (.int x2)] [] M1 (some (.int r)) M2 0 0 ∧ INV M1 ∧ SV7 M2 := by
  obtain ⟨z, y, l, lb, lt, T, P, PI, hB, hN, hC, hD, hR, hI⟩ := hS
  obtain ⟨v1, M1, y1, E1, s1, F1, B1, f1, R1, I1⟩ := rel_c7 (cn := kX10_lay) (k := 3) (ws := [.ref 0, .int x1, .int x2]) false false kX10_lay_ok (by decide +kernel) (by decide +kernel) (by decide) (Two.mk rfl (Two.mk ⟨x1, rfl, i32_any x1⟩ (Two.mk ⟨x2, rfl, i32_any x2⟩ trivial))) hB hR hI
  cases f1 rfl
  have D1 : TXd M1 := hD.frm hB.1.1.sh F1 (by decide +kernel)
  have S1 : SQ M1 := ⟨B1.1.1.sh, B1.2.1⟩
  obtain ⟨v2, M2, y2, E2, s2, F2, B2, f2, K2, D2⟩ := rel_r7 (cn := kX11_lay) (k := 3) (ws := [.ref 633, .int x1, .int x2]) false false kX11_lay_ok (by decide +kernel) (by decide +kernel) (by decide) (Two.mk rfl (Two.mk ⟨x1, rfl, i32_any x1⟩ (Two.mk ⟨x2, rfl, i32_any x2⟩ trivial))) B1
  cases f2 rfl
  have S2 : SQ M2 := ⟨B2.1.1.sh, B2.2.1⟩
  have I2 : RIM PI M2 := I1.frm B1.1.1.sh F2 (by decide +kernel)
  obtain ⟨r, X, rfl, rfl, C1, R2⟩ := al2 (C := fun X => CST T X PI M1) (R := fun X => RST T X M2) (fun a b => b a) (mM (lay_ok hC E1) hC) (rlay_ok R1 hC.ok.1 hC.ok.2.1 E2)
  exact ⟨r, M1, M2, E1, E2, B1.1, ⟨z, y, l, lb, lt, T, X, PI, B2, hN, K2 C1, D2 D1, R2, I2⟩⟩
set_option maxRecDepth 200000 in
theorem pj_15 {x1 x2 : Int32} (hS : SV7 M) : ∃ r M1 M2, Ev none 999 96 0 [some (.ref 0), some (.int x1), some (.int x2), none] [] M (some (.int r)) M1 0 0 ∧ Ev none 999 215 0 [some (.ref 633), some (.int x1), some (.int x2)] [] M1 (some (.int r)) M2 0 0 ∧ INV M1 ∧ SV7 M2 := by
  obtain ⟨z, y, l, lb, lt, T, P, PI, hB, hN, hC, hD, hR, hI⟩ := hS
  obtain ⟨v1, M1, y1, E1, s1, F1, B1, f1, R1, I1⟩ := rel_c7 (cn := kX10_walker) (k := 4) (ws := [.ref 0, .int x1, .int x2]) false false kX10_walker_ok (by decide +kernel) (by decide +kernel) (by decide) (Two.mk rfl (Two.mk ⟨x1, rfl, i32_any x1⟩ (Two.mk ⟨x2, rfl, i32_any x2⟩ trivial))) hB hR hI
  cases f1 rfl
  have D1 : TXd M1 := hD.frm hB.1.1.sh F1 (by decide +kernel)
  have S1 : SQ M1 := ⟨B1.1.1.sh, B1.2.1⟩
  obtain ⟨v2, M2, y2, E2, s2, F2, B2, f2, K2, D2⟩ := rel_r7 (cn := kX11_walker) (k := 3) (ws := [.ref 633, .int x1, .int x2]) false false kX11_walker_ok (by decide +kernel) (by decide +kernel) (by decide) (Two.mk rfl (Two.mk ⟨x1, rfl, i32_any x1⟩ (Two.mk ⟨x2, rfl, i32_any x2⟩ trivial))) B1
  cases f2 rfl
  have S2 : SQ M2 := ⟨B2.1.1.sh, B2.2.1⟩
  have I2 : RIM PI M2 := I1.frm B1.1.1.sh F2 (by decide +kernel)
  obtain ⟨rfl, C1⟩ := walk_ok hC E1
  obtain ⟨rfl, R2⟩ := rwalk_ok R1 hC.ok.2.1 E2
  exact ⟨_, M1, M2, E1, E2, B1.1, ⟨z, y, l, lb, lt, T, _, PI, B2, hN, K2 C1, D2 D1, R2, I2⟩⟩
set_option maxRecDepth 200000 in
theorem pj_16 (hS : SV7 M) : ∃ r M1 M2, Ev none 999 97 0 [some (.ref 0)] [] M (some (.int r)) M1 0 0 ∧ Ev none 999 217 0 [some (.ref 633)] [] M1 (some (.int r)) M2 0 0 ∧ INV M1 ∧ SV7 M2 := by
  obtain ⟨z, y, l, lb, lt, T, P, PI, hB, hN, hC, hD, hR, hI⟩ := hS
  obtain ⟨v1, M1, y1, E1, s1, F1, B1, f1, R1, I1⟩ := rel_c7 (cn := kX10_net) (k := 1) (ws := [.ref 0]) false false kX10_net_ok (by decide +kernel) (by decide +kernel) (by decide) (Two.mk rfl trivial) hB hR hI
  cases f1 rfl
  have D1 : TXd M1 := hD.frm hB.1.1.sh F1 (by decide +kernel)
  have S1 : SQ M1 := ⟨B1.1.1.sh, B1.2.1⟩
  obtain ⟨v2, M2, y2, E2, s2, F2, B2, f2, K2, D2⟩ := rel_r7 (cn := kX11_net) (k := 1) (ws := [.ref 633]) false false kX11_net_ok (by decide +kernel) (by decide +kernel) (by decide) (Two.mk rfl trivial) B1
  cases f2 rfl
  have S2 : SQ M2 := ⟨B2.1.1.sh, B2.2.1⟩
  have I2 : RIM PI M2 := I1.frm B1.1.1.sh F2 (by decide +kernel)
  obtain ⟨rfl, C1⟩ := cnet_ok hC E1
  obtain ⟨rfl, R2⟩ := rnet_ok R1 hC.ok.1 E2
  exact ⟨_, M1, M2, E1, E2, B1.1, ⟨z, y, l, lb, lt, T, _, PI, B2, hN, K2 C1, D2 D1, R2, I2⟩⟩
set_option maxRecDepth 200000 in
theorem pj_17 (hS : SV7 M) : ∃ r1 r2 M1 M2, Ev none 999 98 0 [some (.ref 0)] [] M (some (.int r1)) M1 0 0 ∧ Ev none 999 218 0 [some (.ref 633), none, none] [] M1 (some (.int r2)) M2 0 0 ∧ INV M1 ∧ SV7 M2 := by
  obtain ⟨z, y, l, lb, lt, T, P, PI, hB, hN, hC, hD, hR, hI⟩ := hS
  obtain ⟨v1, M1, y1, E1, s1, F1, B1, f1, R1, I1⟩ := rel_c7 (cn := kX10_pieces) (k := 1) (ws := [.ref 0]) false false kX10_pieces_ok (by decide +kernel) (by decide +kernel) (by decide) (Two.mk rfl trivial) hB hR hI
  cases f1 rfl
  have D1 : TXd M1 := hD.frm hB.1.1.sh F1 (by decide +kernel)
  have S1 : SQ M1 := ⟨B1.1.1.sh, B1.2.1⟩
  obtain ⟨v2, M2, y2, E2, s2, F2, B2, f2, K2, D2⟩ := rel_r7 (cn := kX11_pieces) (k := 3) (ws := [.ref 633]) false false kX11_pieces_ok (by decide +kernel) (by decide +kernel) (by decide) (Two.mk rfl trivial) B1
  cases f2 rfl
  have S2 : SQ M2 := ⟨B2.1.1.sh, B2.2.1⟩
  have I2 : RIM PI M2 := I1.frm B1.1.1.sh F2 (by decide +kernel)
  have C1 : CST T P PI M1 := piecesS_ok hC hB.1 (by decide) E1
  have R2 : RST T P M2 := R1.frm S2 F2 (by decide +kernel)
  obtain ⟨r1, rfl⟩ := ret_i (by decide) s1
  obtain ⟨r2, rfl⟩ := ret_i (by decide) s2
  exact ⟨r1, r2, M1, M2, E1, E2, B1.1, ⟨z, y, l, lb, lt, T, P, PI, B2, hN, K2 C1, D2 D1, R2, I2⟩⟩
set_option maxRecDepth 200000 in
theorem pj_18 {x1 x2 : Int32} (hS : SV7 M) : ∃ r M1 M2, Ev none 999 99 0 [some (.ref 0), some (.int x1), some (.int x2), none] [] M (some (.int r)) M1 0 0 ∧ Ev none 999 223 0 [some (.ref 633), some (.int x1), some (.int x2), none, none] [] M1 (some (.int r)) M2 0 0 ∧ INV M1 ∧ SV7 M2 := by
  obtain ⟨z, y, l, lb, lt, T, P, PI, hB, hN, hC, hD, hR, hI⟩ := hS
  obtain ⟨v1, M1, y1, E1, s1, F1, B1, f1, R1, I1⟩ := rel_c7 (cn := kX10_rests) (k := 4) (ws := [.ref 0, .int x1, .int x2]) false false kX10_rests_ok (by decide +kernel) (by decide +kernel) (by decide) (Two.mk rfl (Two.mk ⟨x1, rfl, i32_any x1⟩ (Two.mk ⟨x2, rfl, i32_any x2⟩ trivial))) hB hR hI
  cases f1 rfl
  have D1 : TXd M1 := hD.frm hB.1.1.sh F1 (by decide +kernel)
  have S1 : SQ M1 := ⟨B1.1.1.sh, B1.2.1⟩
  obtain ⟨v2, M2, y2, E2, s2, F2, B2, f2, K2, D2⟩ := rel_r7 (cn := kX11_rests) (k := 5) (ws := [.ref 633, .int x1, .int x2]) false false kX11_rests_ok (by decide +kernel) (by decide +kernel) (by decide) (Two.mk rfl (Two.mk ⟨x1, rfl, i32_any x1⟩ (Two.mk ⟨x2, rfl, i32_any x2⟩ trivial))) B1
  cases f2 rfl
  have S2 : SQ M2 := ⟨B2.1.1.sh, B2.2.1⟩
  have I2 : RIM PI M2 := I1.frm B1.1.1.sh F2 (by decide +kernel)
  obtain ⟨r, X, rfl, rfl, C1, R2⟩ := al2 (C := fun X => CST T X PI M1) (R := fun X => RST T X M2) (fun a b => b a) (rests_ok hC hB.1 (by decide) E1) (rrests_ok R1 hC.ok.1 hC.ok.2.1 (b42 B1.1) E2)
  exact ⟨r, M1, M2, E1, E2, B1.1, ⟨z, y, l, lb, lt, T, X, PI, B2, hN, K2 C1, D2 D1, R2, I2⟩⟩
set_option maxRecDepth 200000 in
theorem pj_19 (hS : SV7 M) : ∃ r1 r2 M1 M2, Ev none 999 100 0 [some (.ref 0), none] [] M (some (.int r1)) M1 0 0 ∧ Ev none 999 225 0 [some (.ref 633), none, none, none, none, none, none, none] [] M1 (some (.int r2)) M2 0 0 ∧ INV M1 ∧ SV7 M2 := by
  obtain ⟨z, y, l, lb, lt, T, P, PI, hB, hN, hC, hD, hR, hI⟩ := hS
  obtain ⟨v1, M1, y1, E1, s1, F1, B1, f1, R1, I1⟩ := rel_c7 (cn := kX10_least) (k := 2) (ws := [.ref 0]) true false kX10_least_ok (by decide +kernel) (by decide +kernel) (by decide) (Two.mk rfl trivial) hB hR hI
  cases f1 rfl
  have D1 : TXd M1 := hD.frm hB.1.1.sh F1 (by decide +kernel)
  have S1 : SQ M1 := ⟨B1.1.1.sh, B1.2.1⟩
  obtain ⟨v2, M2, y2, E2, s2, F2, B2, f2, K2, D2⟩ := rel_r7 (cn := kX11_least) (k := 8) (ws := [.ref 633]) true false kX11_least_ok (by decide +kernel) (by decide +kernel) (by decide) (Two.mk rfl trivial) B1
  cases f2 rfl
  have S2 : SQ M2 := ⟨B2.1.1.sh, B2.2.1⟩
  have I2 : RIM PI M2 := I1.frm B1.1.1.sh F2 (by decide +kernel)
  have C1 : CST T P PI M1 := leastS_ok hC hB.1 (by decide) E1
  have R2 : RST T P M2 := R1.frm S2 F2 (by decide +kernel)
  obtain ⟨r1, rfl⟩ := ret_i (by decide) s1
  obtain ⟨r2, rfl⟩ := ret_i (by decide) s2
  exact ⟨r1, r2, M1, M2, E1, E2, B1.1, ⟨0, y, l, lb, lt, T, P, PI, B2, fun k hk => absurd hk (Nat.not_lt_zero k), K2 C1, D2 D1, R2, I2⟩⟩
set_option maxRecDepth 200000 in
theorem pj_20 {x1 x2 : Int32} (hS : SV7 M) : ∃ r1 r2 M1 M2, Ev none 999 102 0 [some (.ref 0), some (.int x1), some (.int x2)] [] M (some (.int r1)) M1 0 0 ∧ Ev none 999 228 0 [some (.ref 633), some (.int x1), some (.int x2), none, none] [] M1 (some (.int r2)) M2 0 0 ∧ INV M1 ∧ SV7 M2 := by
  obtain ⟨z, y, l, lb, lt, T, P, PI, hB, hN, hC, hD, hR, hI⟩ := hS
  obtain ⟨v1, M1, y1, E1, s1, F1, B1, f1, R1, I1⟩ := rel_c7 (cn := kX10_longer) (k := 3) (ws := [.ref 0, .int x1, .int x2]) false false kX10_longer_ok (by decide +kernel) (by decide +kernel) (by decide) (Two.mk rfl (Two.mk ⟨x1, rfl, i32_any x1⟩ (Two.mk ⟨x2, rfl, i32_any x2⟩ trivial))) hB hR hI
  cases f1 rfl
  have D1 : TXd M1 := hD.frm hB.1.1.sh F1 (by decide +kernel)
  have S1 : SQ M1 := ⟨B1.1.1.sh, B1.2.1⟩
  obtain ⟨v2, M2, y2, E2, s2, F2, B2, f2, K2, D2⟩ := rel_r7 (cn := kX11_longer) (k := 5) (ws := [.ref 633, .int x1, .int x2]) false false kX11_longer_ok (by decide +kernel) (by decide +kernel) (by decide) (Two.mk rfl (Two.mk ⟨x1, rfl, i32_any x1⟩ (Two.mk ⟨x2, rfl, i32_any x2⟩ trivial))) B1
  cases f2 rfl
  have S2 : SQ M2 := ⟨B2.1.1.sh, B2.2.1⟩
  have I2 : RIM PI M2 := I1.frm B1.1.1.sh F2 (by decide +kernel)
  have C1 : CST T P PI M1 := longerS_ok hC hB.1 (by decide) E1
  have R2 : RST T P M2 := R1.frm S2 F2 (by decide +kernel)
  obtain ⟨r1, rfl⟩ := ret_i (by decide) s1
  obtain ⟨r2, rfl⟩ := ret_i (by decide) s2
  exact ⟨r1, r2, M1, M2, E1, E2, B1.1, ⟨z, y, l, lb, lt, T, P, PI, B2, hN, K2 C1, D2 D1, R2, I2⟩⟩
set_option maxRecDepth 200000 in
theorem pj_21 {x1 x2 x3 x4 : Int32} (hS : SV7 M) : ∃ r M1 M2, Ev none 999 103 0 [some (.ref 0), some (.int x1), some (.int x2), some (.int x3), some (.int x4), none, none, none, none, none, none] [] M (some (.int r)) M1 0 0 ∧ Ev none 999 229 0 [some (.ref 633), some (.int x1), some (.int x2), some (.int x3), some (.int x4), none, none, none, none, none] [] M1 (some (.int r)) M2 0 0 ∧ INV M1 ∧ SV7 M2 := by
  obtain ⟨z, y, l, lb, lt, T, P, PI, hB, hN, hC, hD, hR, hI⟩ := hS
  obtain ⟨v1, M1, y1, E1, s1, F1, B1, f1, R1, I1⟩ := rel_c7 (cn := kX10_turns) (k := 11) (ws := [.ref 0, .int x1, .int x2, .int x3, .int x4]) false false kX10_turns_ok (by decide +kernel) (by decide +kernel) (by decide) (Two.mk rfl (Two.mk ⟨x1, rfl, i32_any x1⟩ (Two.mk ⟨x2, rfl, i32_any x2⟩ (Two.mk ⟨x3, rfl, i32_any x3⟩ (Two.mk ⟨x4, rfl, i32_any x4⟩ trivial))))) hB hR hI
  cases f1 rfl
  have D1 : TXd M1 := (turns_ok hC hD E1).2.1
  have S1 : SQ M1 := ⟨B1.1.1.sh, B1.2.1⟩
  obtain ⟨v2, M2, y2, E2, s2, F2, B2, f2, K2, D2⟩ := rel_r7 (cn := kX11_turns) (k := 10) (ws := [.ref 633, .int x1, .int x2, .int x3, .int x4]) false false kX11_turns_ok (by decide +kernel) (by decide +kernel) (by decide) (Two.mk rfl (Two.mk ⟨x1, rfl, i32_any x1⟩ (Two.mk ⟨x2, rfl, i32_any x2⟩ (Two.mk ⟨x3, rfl, i32_any x3⟩ (Two.mk ⟨x4, rfl, i32_any x4⟩ trivial))))) B1
  cases f2 rfl
  have S2 : SQ M2 := ⟨B2.1.1.sh, B2.2.1⟩
  have I2 : RIM PI M2 := I1.frm B1.1.1.sh F2 (by decide +kernel)
  obtain ⟨r, X, rfl, rfl, C1, R2⟩ := al2 (C := fun X => CST T X PI M1) (R := fun X => RST T X M2) (fun a b => b a) (mTt (turns_ok hC hD E1)) (mTr (rturns_ok R1 hC.ok.1 hC.ok.2.1 (b42 B1.1) E2))
  exact ⟨r, M1, M2, E1, E2, B1.1, ⟨z, y, l, lb, lt, T, X, PI, B2, hN, K2 C1, D2 D1, R2, I2⟩⟩
set_option maxRecDepth 200000 in
theorem pj_22 {x1 x2 x3 x4 : Int32} (hS : SV7 M) : ∃ r M1 M2, Ev none 999 104 0 [some (.ref 0), some (.int x1), some (.int x2), some (.int x3), some (.int x4)] [] M (some (.int r)) M1 0 0 ∧ Ev none 999 231 0 [some (.ref 633), some (.int x1), some (.int x2), some (.int x3), some (.int x4)] [] M1 (some (.int r)) M2 0 0 ∧ INV M1 ∧ SV7 M2 := by
  obtain ⟨z, y, l, lb, lt, T, P, PI, hB, hN, hC, hD, hR, hI⟩ := hS
  obtain ⟨v1, M1, y1, E1, s1, F1, B1, f1, R1, I1⟩ := rel_c7 (cn := kX10_paved) (k := 5) (ws := [.ref 0, .int x1, .int x2, .int x3, .int x4]) false false kX10_paved_ok (by decide +kernel) (by decide +kernel) (by decide) (Two.mk rfl (Two.mk ⟨x1, rfl, i32_any x1⟩ (Two.mk ⟨x2, rfl, i32_any x2⟩ (Two.mk ⟨x3, rfl, i32_any x3⟩ (Two.mk ⟨x4, rfl, i32_any x4⟩ trivial))))) hB hR hI
  cases f1 rfl
  have D1 : TXd M1 := hD.frm hB.1.1.sh F1 (by decide +kernel)
  have S1 : SQ M1 := ⟨B1.1.1.sh, B1.2.1⟩
  obtain ⟨v2, M2, y2, E2, s2, F2, B2, f2, K2, D2⟩ := rel_r7 (cn := kX11_paved) (k := 5) (ws := [.ref 633, .int x1, .int x2, .int x3, .int x4]) false false kX11_paved_ok (by decide +kernel) (by decide +kernel) (by decide) (Two.mk rfl (Two.mk ⟨x1, rfl, i32_any x1⟩ (Two.mk ⟨x2, rfl, i32_any x2⟩ (Two.mk ⟨x3, rfl, i32_any x3⟩ (Two.mk ⟨x4, rfl, i32_any x4⟩ trivial))))) B1
  cases f2 rfl
  have S2 : SQ M2 := ⟨B2.1.1.sh, B2.2.1⟩
  have I2 : RIM PI M2 := I1.frm B1.1.1.sh F2 (by decide +kernel)
  obtain ⟨r, X, rfl, rfl, C1, R2⟩ := al2 (C := fun X => CST T X PI M1) (R := fun X => RST T X M2) (fun a b => b a) (mC (paved_ok hC hB.1 (by decide) E1)) (mTr (rpaved_ok R1 hC.ok.1 hC.ok.2.1 (b42 B1.1) E2))
  exact ⟨r, M1, M2, E1, E2, B1.1, ⟨z, y, l, lb, lt, T, X, PI, B2, hN, K2 C1, D2 D1, R2, I2⟩⟩
set_option maxRecDepth 200000 in
theorem pj_23 {x1 x2 : Int32} (hS : SV7 M) : ∃ r M1 M2, Ev none 999 105 0 [some (.ref 0), some (.int x1), some (.int x2), none, none, none, none] [] M (some (.int r)) M1 0 0 ∧ Ev none 999 232 0 [some (.ref 633), some (.int x1), some (.int x2), none, none, none, none] [] M1 (some (.int r)) M2 0 0 ∧ INV M1 ∧ SV7 M2 := by
  obtain ⟨z, y, l, lb, lt, T, P, PI, hB, hN, hC, hD, hR, hI⟩ := hS
  obtain ⟨v1, M1, y1, E1, s1, F1, B1, f1, R1, I1⟩ := rel_c7 (cn := kX10_wait) (k := 7) (ws := [.ref 0, .int x1, .int x2]) false false kX10_wait_ok (by decide +kernel) (by decide +kernel) (by decide) (Two.mk rfl (Two.mk ⟨x1, rfl, i32_any x1⟩ (Two.mk ⟨x2, rfl, i32_any x2⟩ trivial))) hB hR hI
  cases f1 rfl
  have D1 : TXd M1 := hD.frm hB.1.1.sh F1 (by decide +kernel)
  have S1 : SQ M1 := ⟨B1.1.1.sh, B1.2.1⟩
  obtain ⟨v2, M2, y2, E2, s2, F2, B2, f2, K2, D2⟩ := rel_r7 (cn := kX11_wait) (k := 7) (ws := [.ref 633, .int x1, .int x2]) false false kX11_wait_ok (by decide +kernel) (by decide +kernel) (by decide) (Two.mk rfl (Two.mk ⟨x1, rfl, i32_any x1⟩ (Two.mk ⟨x2, rfl, i32_any x2⟩ trivial))) B1
  cases f2 rfl
  have S2 : SQ M2 := ⟨B2.1.1.sh, B2.2.1⟩
  have I2 : RIM PI M2 := I1.frm B1.1.1.sh F2 (by decide +kernel)
  obtain ⟨r, X, rfl, rfl, C1, R2⟩ := al2 (C := fun X => CST T X PI M1) (R := fun X => RST T X M2) (fun a b => b a) (mC (wait_ok hC hB.1 (by decide) E1)) (mTr (rwait_ok R1 hC.ok.1 hC.ok.2.1 (b42 B1.1) E2))
  exact ⟨r, M1, M2, E1, E2, B1.1, ⟨z, y, l, lb, lt, T, X, PI, B2, hN, K2 C1, D2 D1, R2, I2⟩⟩
set_option maxRecDepth 200000 in
theorem pj_25 {x1 : Int32} (hS : SV7 M) : ∃ r1 r2 M1 M2, Ev none 999 113 0 [some (.ref 0), some (.int x1)] [] M (some (.int r1)) M1 0 0 ∧ Ev none 999 236 0 [some (.ref 633), some (.int x1)] [] M1 (some (.int r2)) M2 0 0 ∧ INV M1 ∧ SV7 M2 := by
  obtain ⟨z, y, l, lb, lt, T, P, PI, hB, hN, hC, hD, hR, hI⟩ := hS
  obtain ⟨v1, M1, y1, E1, s1, F1, B1, f1, R1, I1⟩ := rel_c7 (cn := kX10_fenceAt) (k := 2) (ws := [.ref 0, .int x1]) false false kX10_fenceAt_ok (by decide +kernel) (by decide +kernel) (by decide) (Two.mk rfl (Two.mk ⟨x1, rfl, i32_any x1⟩ trivial)) hB hR hI
  cases f1 rfl
  have D1 : TXd M1 := hD.frm hB.1.1.sh F1 (by decide +kernel)
  have S1 : SQ M1 := ⟨B1.1.1.sh, B1.2.1⟩
  obtain ⟨v2, M2, y2, E2, s2, F2, B2, f2, K2, D2⟩ := rel_r7 (cn := kX11_fenceAt) (k := 2) (ws := [.ref 633, .int x1]) false false kX11_fenceAt_ok (by decide +kernel) (by decide +kernel) (by decide) (Two.mk rfl (Two.mk ⟨x1, rfl, i32_any x1⟩ trivial)) B1
  cases f2 rfl
  have S2 : SQ M2 := ⟨B2.1.1.sh, B2.2.1⟩
  have I2 : RIM PI M2 := I1.frm B1.1.1.sh F2 (by decide +kernel)
  have C1 : CST T P PI M1 := hC.frm S1 F1 (by decide +kernel)
  have R2 : RST T P M2 := R1.frm S2 F2 (by decide +kernel)
  obtain ⟨r1, rfl⟩ := ret_i (by decide) s1
  obtain ⟨r2, rfl⟩ := ret_i (by decide) s2
  exact ⟨r1, r2, M1, M2, E1, E2, B1.1, ⟨z, y, l, lb, lt, T, P, PI, B2, hN, K2 C1, D2 D1, R2, I2⟩⟩
set_option maxRecDepth 200000 in
theorem pj_26 {x1 x2 x3 x4 : Int32} (hS : SV7 M) : ∃ r M1 M2, Ev none 999 114 0 [some (.ref 0), some (.int x1), some (.int x2), some (.int x3), some (.int x4), none] [] M (some (.int r)) M1 0 0 ∧ Ev none 999 237 0 [some (.ref 633), some (.int x1), some (.int x2), some (.int x3), some (.int x4), none, none] [] M1 (some (.int r)) M2 0 0 ∧ INV M1 ∧ SV7 M2 := by
  obtain ⟨z, y, l, lb, lt, T, P, PI, hB, hN, hC, hD, hR, hI⟩ := hS
  obtain ⟨v1, M1, y1, E1, s1, F1, B1, f1, R1, I1⟩ := rel_c7 (cn := kX10_lasts) (k := 6) (ws := [.ref 0, .int x1, .int x2, .int x3, .int x4]) false false kX10_lasts_ok (by decide +kernel) (by decide +kernel) (by decide) (Two.mk rfl (Two.mk ⟨x1, rfl, i32_any x1⟩ (Two.mk ⟨x2, rfl, i32_any x2⟩ (Two.mk ⟨x3, rfl, i32_any x3⟩ (Two.mk ⟨x4, rfl, i32_any x4⟩ trivial))))) hB hR hI
  cases f1 rfl
  have D1 : TXd M1 := hD.frm hB.1.1.sh F1 (by decide +kernel)
  have S1 : SQ M1 := ⟨B1.1.1.sh, B1.2.1⟩
  obtain ⟨v2, M2, y2, E2, s2, F2, B2, f2, K2, D2⟩ := rel_r7 (cn := kX11_lasts) (k := 7) (ws := [.ref 633, .int x1, .int x2, .int x3, .int x4]) false false kX11_lasts_ok (by decide +kernel) (by decide +kernel) (by decide) (Two.mk rfl (Two.mk ⟨x1, rfl, i32_any x1⟩ (Two.mk ⟨x2, rfl, i32_any x2⟩ (Two.mk ⟨x3, rfl, i32_any x3⟩ (Two.mk ⟨x4, rfl, i32_any x4⟩ trivial))))) B1
  cases f2 rfl
  have S2 : SQ M2 := ⟨B2.1.1.sh, B2.2.1⟩
  have I2 : RIM PI M2 := I1.frm B1.1.1.sh F2 (by decide +kernel)
  obtain ⟨r, X, rfl, rfl, C1, R2⟩ := al2 (C := fun X => CST T X PI M1) (R := fun X => RST T X M2) (fun a b => b a) (lasts_ok hC E1) (rlasts_ok R1 hC.ok.1 hC.ok.2.1 (b42 B1.1) E2)
  exact ⟨r, M1, M2, E1, E2, B1.1, ⟨z, y, l, lb, lt, T, X, PI, B2, hN, K2 C1, D2 D1, R2, I2⟩⟩
set_option maxRecDepth 200000 in
theorem pj_28 {x1 : Int32} (hS : SV7 M) : ∃ r1 r2 M1 M2, Ev none 999 116 0 [some (.ref 0), some (.int x1)] [] M (some (.int r1)) M1 0 0 ∧ Ev none 999 241 0 [some (.ref 633), some (.int x1)] [] M1 (some (.int r2)) M2 0 0 ∧ INV M1 ∧ SV7 M2 := by
  obtain ⟨z, y, l, lb, lt, T, P, PI, hB, hN, hC, hD, hR, hI⟩ := hS
  obtain ⟨v1, M1, y1, E1, s1, F1, B1, f1, R1, I1⟩ := rel_c7 (cn := kX10_wayAt) (k := 2) (ws := [.ref 0, .int x1]) false false kX10_wayAt_ok (by decide +kernel) (by decide +kernel) (by decide) (Two.mk rfl (Two.mk ⟨x1, rfl, i32_any x1⟩ trivial)) hB hR hI
  cases f1 rfl
  have D1 : TXd M1 := hD.frm hB.1.1.sh F1 (by decide +kernel)
  have S1 : SQ M1 := ⟨B1.1.1.sh, B1.2.1⟩
  obtain ⟨v2, M2, y2, E2, s2, F2, B2, f2, K2, D2⟩ := rel_r7 (cn := kX11_wayAt) (k := 2) (ws := [.ref 633, .int x1]) false false kX11_wayAt_ok (by decide +kernel) (by decide +kernel) (by decide) (Two.mk rfl (Two.mk ⟨x1, rfl, i32_any x1⟩ trivial)) B1
  cases f2 rfl
  have S2 : SQ M2 := ⟨B2.1.1.sh, B2.2.1⟩
  have I2 : RIM PI M2 := I1.frm B1.1.1.sh F2 (by decide +kernel)
  have C1 : CST T P PI M1 := hC.frm S1 F1 (by decide +kernel)
  have R2 : RST T P M2 := R1.frm S2 F2 (by decide +kernel)
  obtain ⟨r1, rfl⟩ := ret_i (by decide) s1
  obtain ⟨r2, rfl⟩ := ret_i (by decide) s2
  exact ⟨r1, r2, M1, M2, E1, E2, B1.1, ⟨z, y, l, lb, lt, T, P, PI, B2, hN, K2 C1, D2 D1, R2, I2⟩⟩
set_option maxRecDepth 200000 in
theorem pj_29 (hS : SV7 M) : ∃ r1 r2 M1 M2, Ev none 999 117 0 [some (.ref 0), none] [] M (some (.int r1)) M1 0 0 ∧ Ev none 999 242 0 [some (.ref 633), none, none, none, none, none, none] [] M1 (some (.int r2)) M2 0 0 ∧ INV M1 ∧ SV7 M2 := by
  obtain ⟨z, y, l, lb, lt, T, P, PI, hB, hN, hC, hD, hR, hI⟩ := hS
  obtain ⟨v1, M1, y1, E1, s1, F1, B1, f1, R1, I1⟩ := rel_c7 (cn := kX10_read) (k := 2) (ws := [.ref 0]) true false kX10_read_ok (by decide +kernel) (by decide +kernel) (by decide) (Two.mk rfl trivial) hB hR hI
  cases f1 rfl
  have D1 : TXd M1 := hD.frm hB.1.1.sh F1 (by decide +kernel)
  have S1 : SQ M1 := ⟨B1.1.1.sh, B1.2.1⟩
  obtain ⟨v2, M2, y2, E2, s2, F2, B2, f2, K2, D2⟩ := rel_r7 (cn := kX11_read_) (k := 7) (ws := [.ref 633]) true false kX11_read__ok (by decide +kernel) (by decide +kernel) (by decide) (Two.mk rfl trivial) B1
  cases f2 rfl
  have S2 : SQ M2 := ⟨B2.1.1.sh, B2.2.1⟩
  have I2 : RIM PI M2 := I1.frm B1.1.1.sh F2 (by decide +kernel)
  have C1 : CST T P PI M1 := (readS_ok hC hB.1 (by decide) E1).1
  have R2 : RST T P M2 := R1.frm S2 F2 (by decide +kernel)
  obtain ⟨r1, rfl⟩ := ret_i (by decide) s1
  obtain ⟨r2, rfl⟩ := ret_i (by decide) s2
  exact ⟨r1, r2, M1, M2, E1, E2, B1.1, ⟨0, y, l, lb, lt, T, P, PI, B2, fun k hk => absurd hk (Nat.not_lt_zero k), K2 C1, D2 D1, R2, I2⟩⟩
set_option maxRecDepth 200000 in
theorem pj_30 {x1 x2 : Int32} (hS : SV7 M) : ∃ r1 r2 M1 M2, Ev none 999 119 0 [some (.ref 0), some (.int x1), some (.int x2)] [] M (some (.int r1)) M1 0 0 ∧ Ev none 999 244 0 [some (.ref 633), some (.int x1), some (.int x2)] [] M1 (some (.int r2)) M2 0 0 ∧ INV M1 ∧ SV7 M2 := by
  obtain ⟨z, y, l, lb, lt, T, P, PI, hB, hN, hC, hD, hR, hI⟩ := hS
  obtain ⟨v1, M1, y1, E1, s1, F1, B1, f1, R1, I1⟩ := rel_c7 (cn := kX10_reads) (k := 3) (ws := [.ref 0, .int x1, .int x2]) false false kX10_reads_ok (by decide +kernel) (by decide +kernel) (by decide) (Two.mk rfl (Two.mk ⟨x1, rfl, i32_any x1⟩ (Two.mk ⟨x2, rfl, i32_any x2⟩ trivial))) hB hR hI
  cases f1 rfl
  have D1 : TXd M1 := hD.frm hB.1.1.sh F1 (by decide +kernel)
  have S1 : SQ M1 := ⟨B1.1.1.sh, B1.2.1⟩
  obtain ⟨v2, M2, y2, E2, s2, F2, B2, f2, K2, D2⟩ := rel_r7 (cn := kX11_reads) (k := 3) (ws := [.ref 633, .int x1, .int x2]) false false kX11_reads_ok (by decide +kernel) (by decide +kernel) (by decide) (Two.mk rfl (Two.mk ⟨x1, rfl, i32_any x1⟩ (Two.mk ⟨x2, rfl, i32_any x2⟩ trivial))) B1
  cases f2 rfl
  have S2 : SQ M2 := ⟨B2.1.1.sh, B2.2.1⟩
  have I2 : RIM PI M2 := I1.frm B1.1.1.sh F2 (by decide +kernel)
  have C1 : CST T P PI M1 := hC.frm S1 F1 (by decide +kernel)
  have R2 : RST T P M2 := R1.frm S2 F2 (by decide +kernel)
  obtain ⟨r1, rfl⟩ := ret_i (by decide) s1
  obtain ⟨r2, rfl⟩ := ret_i (by decide) s2
  exact ⟨r1, r2, M1, M2, E1, E2, B1.1, ⟨z, y, l, lb, lt, T, P, PI, B2, hN, K2 C1, D2 D1, R2, I2⟩⟩
set_option maxRecDepth 200000 in
theorem pj_31 {x1 x2 : Int32} (hS : SV7 M) : ∃ r1 r2 M1 M2, Ev none 999 120 0 [some (.ref 0), some (.int x1), some (.int x2), none] [] M (some (.int r1)) M1 0 0 ∧ Ev none 999 245 0 [some (.ref 633), some (.int x1), some (.int x2), none, none, none, none] [] M1 (some (.int r2)) M2 0 0 ∧ INV M1 ∧ SV7 M2 := by
  obtain ⟨z, y, l, lb, lt, T, P, PI, hB, hN, hC, hD, hR, hI⟩ := hS
  obtain ⟨v1, M1, y1, E1, s1, F1, B1, f1, R1, I1⟩ := rel_c7 (cn := kX10_fits) (k := 4) (ws := [.ref 0, .int x1, .int x2]) true false kX10_fits_ok (by decide +kernel) (by decide +kernel) (by decide) (Two.mk rfl (Two.mk ⟨x1, rfl, i32_any x1⟩ (Two.mk ⟨x2, rfl, i32_any x2⟩ trivial))) hB hR hI
  cases f1 rfl
  have D1 : TXd M1 := hD.frm hB.1.1.sh F1 (by decide +kernel)
  have S1 : SQ M1 := ⟨B1.1.1.sh, B1.2.1⟩
  obtain ⟨v2, M2, y2, E2, s2, F2, B2, f2, K2, D2⟩ := rel_r7 (cn := kX11_fits) (k := 7) (ws := [.ref 633, .int x1, .int x2]) true false kX11_fits_ok (by decide +kernel) (by decide +kernel) (by decide) (Two.mk rfl (Two.mk ⟨x1, rfl, i32_any x1⟩ (Two.mk ⟨x2, rfl, i32_any x2⟩ trivial))) B1
  cases f2 rfl
  have S2 : SQ M2 := ⟨B2.1.1.sh, B2.2.1⟩
  have I2 : RIM PI M2 := I1.frm B1.1.1.sh F2 (by decide +kernel)
  have C1 : CST T P PI M1 := (fitsS_ok hC hB.1 (by decide) E1).1
  have R2 : RST T P M2 := R1.frm S2 F2 (by decide +kernel)
  obtain ⟨r1, rfl⟩ := ret_i (by decide) s1
  obtain ⟨r2, rfl⟩ := ret_i (by decide) s2
  exact ⟨r1, r2, M1, M2, E1, E2, B1.1, ⟨0, y, l, lb, lt, T, P, PI, B2, fun k hk => absurd hk (Nat.not_lt_zero k), K2 C1, D2 D1, R2, I2⟩⟩
set_option maxRecDepth 200000 in
theorem pj_34 {x1 : Int32} (hS : SV7 M) : ∃ r M1 M2, Ev none 999 125 0 [some (.ref 0), some (.int x1)] [] M (some (.int r)) M1 0 0 ∧ Ev none 999 248 0 [some (.ref 633), some (.int x1), none, none] [] M1 (some (.int r)) M2 0 0 ∧ INV M1 ∧ SV7 M2 := by
  obtain ⟨z, y, l, lb, lt, T, P, PI, hB, hN, hC, hD, hR, hI⟩ := hS
  obtain ⟨v1, M1, y1, E1, s1, F1, B1, f1, R1, I1⟩ := rel_c7 (cn := kX10_count) (k := 2) (ws := [.ref 0, .int x1]) false false kX10_count_ok (by decide +kernel) (by decide +kernel) (by decide) (Two.mk rfl (Two.mk ⟨x1, rfl, i32_any x1⟩ trivial)) hB hR hI
  cases f1 rfl
  have D1 : TXd M1 := hD.frm hB.1.1.sh F1 (by decide +kernel)
  have S1 : SQ M1 := ⟨B1.1.1.sh, B1.2.1⟩
  obtain ⟨v2, M2, y2, E2, s2, F2, B2, f2, K2, D2⟩ := rel_r7 (cn := kX11_count) (k := 4) (ws := [.ref 633, .int x1]) false false kX11_count_ok (by decide +kernel) (by decide +kernel) (by decide) (Two.mk rfl (Two.mk ⟨x1, rfl, i32_any x1⟩ trivial)) B1
  cases f2 rfl
  have S2 : SQ M2 := ⟨B2.1.1.sh, B2.2.1⟩
  have I2 : RIM PI M2 := I1.frm B1.1.1.sh F2 (by decide +kernel)
  obtain ⟨rfl, C1⟩ := (hB.2.2.1.zi ▸ count_ok hC E1 : v1 = some (.int (couA P z x1)) ∧ CST T P PI M1)
  obtain ⟨rfl, R2⟩ := (B1.2.2.2.1.zi ▸ rcount_ok R1 hC.ok.1 E2 : v2 = some (.int (couA P z x1)) ∧ RST T P M2)
  exact ⟨_, M1, M2, E1, E2, B1.1, ⟨z, y, l, lb, lt, T, _, PI, B2, hN, K2 C1, D2 D1, R2, I2⟩⟩
theorem B6.cfr {md : Md} {z2 : Int32} {lb2 : List Int32} (h : B6 z w y q l lb lt M) (h2 : INV M') (hF : Frm sT md M M') (hC : LC z2 M') (hP : BC lb2 M') (hB : ((!mdIn md 11 2) && ((!mdIn md 1057 0) && ((!mdIn md 1066 0) && ((!mdIn md 1062 0) && ((!mdIn md 10 15) && ((!mdIn md 11 26) && fxM md)))))) = true) : B6 z2 w y q l lb2 lt M' := by
  obtain ⟨hV, hX, _, hR, hK, hL, _, hQ, hF0, hG⟩ := h
  obtain ⟨b1, hB⟩ := and_t hB
  obtain ⟨b2, hB⟩ := and_t hB
  obtain ⟨b3, hB⟩ := and_t hB
  obtain ⟨b4, hB⟩ := and_t hB
  obtain ⟨b5, hB⟩ := and_t hB
  obtain ⟨b6, b7⟩ := and_t hB
  exact ⟨h2, hX.frm hV.1.sh hF b7, hC, hR.frm hF (md_no b1), hK.frm hF (md_no b2), hL.frm hF (md_no b3), hP, hQ.frm hF (md_no b4), hF0.frm hF (md_no b5), hG.frm hF (md_no b6)⟩
theorem B6.rfr {md : Md} {w2 : Int32} {lt2 : List Int32} (h : B6 z w y q l lb lt M) (h2 : INV M') (hF : Frm sT md M M') (hR : LR w2 M') (hQ : BR lt2 M') (hB : ((!mdIn md 5 1) && ((!mdIn md 1057 0) && ((!mdIn md 1066 0) && ((!mdIn md 1002 0) && ((!mdIn md 10 15) && ((!mdIn md 11 26) && fxM md)))))) = true) : B6 z w2 y q l lb lt2 M' := by
  obtain ⟨hV, hX, hC, _, hK, hL, hP, _, hF0, hG⟩ := h
  obtain ⟨b1, hB⟩ := and_t hB
  obtain ⟨b2, hB⟩ := and_t hB
  obtain ⟨b3, hB⟩ := and_t hB
  obtain ⟨b4, hB⟩ := and_t hB
  obtain ⟨b5, hB⟩ := and_t hB
  obtain ⟨b6, b7⟩ := and_t hB
  exact ⟨h2, hX.frm hV.1.sh hF b7, hC.frm hF (md_no b1), hR, hK.frm hF (md_no b2), hL.frm hF (md_no b3), hP.frm hF (md_no b4), hQ, hF0.frm hF (md_no b5), hG.frm hF (md_no b6)⟩
theorem B6.sq (h : B6 z w y q l lb lt M) : SQ M := ⟨h.1.1.sh, h.2.1⟩
/-! feed, end -/
set_option maxRecDepth 200000 in
theorem pj_0 {x1 x2 x3 x4 x5 : Int32} (hS : SV7 M) : ∃ r M1 M2, Ev none 999 80 0 [some (.ref 0), some (.int x1), some (.int x2), some (.int x3), some (.int x4), some (.int x5)] [] M (some (.int r)) M1 0 0 ∧ Ev none 999 136 0 [some (.ref 633), some (.int x1), some (.int x2), some (.int x3), some (.int x4), some (.int x5)] [] M1 (some (.int r)) M2 0 0 ∧ INV M1 ∧ SV7 M2 := by
  obtain ⟨z, y, l, lb, lt, T, P, PI, hB, hN, hC, hD, hR, hI⟩ := hS
  have hz8 := hB.2.2.1.rng hB.1.1
  have hz9 : z.toInt = (z.toInt.toNat : Int) := by omega
  obtain ⟨M1, E1, V1, F1, z1, b1⟩ := ev_feedC4 (e := 998) (x1 := x1) (x2 := x2) (x3 := x3) (x4 := x4) (x5 := x5) hB.1 hB.2.2.1 hB.2.2.2.2.2.2.1
  have B1 := hB.cfr V1 F1 z1 b1 (by decide +kernel)
  obtain ⟨M2, E2, V2, F2, z2, b2⟩ := ev_feedR4 (e := 998) (x1 := x1) (x2 := x2) (x3 := x3) (x4 := x4) (x5 := x5) B1.1 B1.2.2.2.1 B1.2.2.2.2.2.2.2.1
  have B2 := B1.rfr V2 F2 z2 b2 (by decide +kernel)
  refine ⟨_, M1, M2, E1, E2, V1, ⟨_, y, l, _, _, T, P, PI, B2, fd_ok hN hz9 (hB.2.2.2.2.2.2.1.len hB.1.1) (hB.2.2.2.2.2.2.2.1.len hB.1.1) (by omega), ?_, ?_, ?_, ?_⟩⟩
  · exact (hC.frm B1.sq F1 (by decide +kernel)).frm B2.sq F2 (by decide +kernel)
  · exact (hD.frm hB.1.1.sh F1 (by decide +kernel)).frm B1.1.1.sh F2 (by decide +kernel)
  · exact (hR.frm B1.sq F1 (by decide +kernel)).frm B2.sq F2 (by decide +kernel)
  · exact (hI.frm hB.1.1.sh F1 (by decide +kernel)).frm B1.1.1.sh F2 (by decide +kernel)
set_option maxRecDepth 200000 in
theorem pj_1 {x1 : Int32} (hS : SV7 M) : ∃ r M1 M2, Ev none 999 81 0 [some (.ref 0), some (.int x1)] [] M (some (.int r)) M1 0 0 ∧ Ev none 999 138 0 [some (.ref 633), some (.int x1)] [] M1 (some (.int r)) M2 0 0 ∧ INV M1 ∧ SV7 M2 := by
  obtain ⟨z, y, l, lb, lt, T, P, PI, hB, hN, hC, hD, hR, hI⟩ := hS
  obtain ⟨M1, E1, V1, F1, z1⟩ := ev_endC (e := 998) (x := x1) hB.1 hB.2.2.1
  have B1 := hB.cfr V1 F1 z1 (hB.2.2.2.2.2.2.1.frm F1 (by decide)) (by decide +kernel)
  obtain ⟨M2, E2, V2, F2, z2⟩ := ev_endR (e := 998) (x := x1) B1.1 B1.2.2.2.1
  have B2 := B1.rfr V2 F2 z2 (B1.2.2.2.2.2.2.2.1.frm F2 (by decide)) (by decide +kernel)
  refine ⟨_, M1, M2, E1, E2, V1, ⟨_, y, l, _, _, T, P, PI, B2, hN.end, ?_, ?_, ?_, ?_⟩⟩
  · exact (hC.frm B1.sq F1 (by decide +kernel)).frm B2.sq F2 (by decide +kernel)
  · exact (hD.frm hB.1.1.sh F1 (by decide +kernel)).frm B1.1.1.sh F2 (by decide +kernel)
  · exact (hR.frm B1.sq F1 (by decide +kernel)).frm B2.sq F2 (by decide +kernel)
  · exact (hI.frm hB.1.1.sh F1 (by decide +kernel)).frm B1.1.1.sh F2 (by decide +kernel)
/-! park -/
theorem bl_rng {n k : Nat} (hN : BBp n lb lt) (hk : k < n) : 0 ≤ (bL lt k).toInt ∧ (bL lt k).toInt < 256 := by
  unfold bL
  have e : ∀ x : Int32, 0 ≤ (x &&& 255).toInt ∧ (x &&& 255).toInt < 256 := fun x => by
    have h := and_255 x
    omega
  exact e _
set_option maxRecDepth 200000 in
theorem pj_2 {x1 x2 : Int32} (hS : SV7 M) : ∃ r M1 M2, Ev none 999 82 0 [some (.ref 0), some (.int x1), some (.int x2), none] [] M (some (.int r)) M1 0 0 ∧ Ev none 999 155 0 [some (.ref 633), some (.int x1), some (.int x2), none] [] M1 (some (.int r)) M2 0 0 ∧ INV M1 ∧ SV7 M2 := by
  obtain ⟨z, y, l, lb, lt, T, P, PI, hB, hN, hC, hD, hR, hI⟩ := hS
  obtain ⟨v1, M1, y1, E1, s1, F1, B1, f1, R1, I1⟩ := rel_c7 (cn := kX10_park) (k := 4) (ws := [.ref 0, .int x1, .int x2]) true false kX10_park_ok (by decide +kernel) (by decide +kernel) (by decide) (Two.mk rfl (Two.mk ⟨x1, rfl, i32_any x1⟩ (Two.mk ⟨x2, rfl, i32_any x2⟩ trivial))) hB hR hI
  cases f1 rfl
  have D1 : TXd M1 := hD.frm hB.1.1.sh F1 (by decide +kernel)
  obtain ⟨v2, M2, y2, E2, s2, F2, B2, f2, K2, D2⟩ := rel_r7 (cn := kX11_park) (k := 4) (ws := [.ref 633, .int x1, .int x2]) true false kX11_park_ok (by decide +kernel) (by decide +kernel) (by decide) (Two.mk rfl (Two.mk ⟨x1, rfl, i32_any x1⟩ (Two.mk ⟨x2, rfl, i32_any x2⟩ trivial))) B1
  cases f2 rfl
  have I2 : RIM PI M2 := I1.frm B1.1.1.sh F2 (by decide +kernel)
  have ez := hB.2.2.1.zi
  have hz8 := hB.2.2.1.rng hB.1.1
  have ew := B1.2.2.2.1.zi
  have hbl := hB.2.2.2.2.2.2.1.bl hN
  have hbr := B1.2.2.2.2.2.2.2.1.bl
  have C := park_ok hC (fun k hk => by
    rw [ez] at hk
    have e : rN M 2 k = bL lt k := hbl k hk
    rw [e]
    exact bl_rng hN hk) E1
  have R := rpark_ok (o := rN M 2) (n := z.toInt.toNat) R1 (by rw [ew]; omega) (fun k hk => by
    have e : rN M 2 k = bL lt k := hbl k hk
    rw [e]
    exact congrFun hbr k) E2
  rw [ez] at C
  rw [ew] at R
  obtain ⟨r, X, rfl, rfl, C1, R2⟩ := al2 (C := fun X => CST T X PI M1) (R := fun X => RST T X M2) (fun a b => a b) C R
  exact ⟨r, M1, M2, E1, E2, B1.1, ⟨0, y, l, lb, lt, T, X, PI, B2, fun k hk => absurd hk (Nat.not_lt_zero k), K2 C1, D2 D1, R2, I2⟩⟩
/-! fences -/
theorem mF1 {B D : Prop} (h : CST T P PI M ∧ ((A ∧ v = some (.int a) ∧ B) ∨ (A' ∧ v = some (.int b) ∧ D))) : (A ∧ v = some (.int a) ∧ CST T P PI M) ∨ (A' ∧ v = some (.int b) ∧ CST T P PI M) := by
  obtain ⟨h1, h2⟩ := h
  rcases h2 with ⟨h2, h3, _⟩ | ⟨h2, h3, _⟩
  · exact Or.inl ⟨h2, h3, h1⟩
  · exact Or.inr ⟨h2, h3, h1⟩
theorem mF2 {B : Prop} {r : Option (Int32 × Int32 × Int32)} {M0 : Mem} (h : (A ∧ v = some (.int a) ∧ RST T P M ∧ B) ∨ (A' ∧ FRE T P z M0 r v M)) : (A ∧ v = some (.int a) ∧ RST T P M) ∨ (A' ∧ v = some (.int (fenR r)) ∧ RST T P M) := by
  rcases h with ⟨h1, h2, h3, _⟩ | ⟨h1, h2, h3, _⟩
  · exact Or.inl ⟨h1, h2, h3⟩
  · exact Or.inr ⟨h1, h2, h3⟩
set_option maxRecDepth 200000 in
theorem pj_24 {x1 x2 : Int32} (hS : SV7 M) : ∃ r M1 M2, Ev none 999 108 0 [some (.ref 0), some (.int x1), some (.int x2), none] [] M (some (.int r)) M1 0 0 ∧ Ev none 999 235 0 [some (.ref 633), some (.int x1), some (.int x2), none, none, none] [] M1 (some (.int r)) M2 0 0 ∧ INV M1 ∧ SV7 M2 := by
  obtain ⟨z, y, l, lb, lt, T, P, PI, hB, hN, hC, hD, hR, hI⟩ := hS
  obtain ⟨v1, M1, y1, E1, s1, F1, B1, f1, R1, I1⟩ := rel_c7 (cn := kX10_fences) (k := 4) (ws := [.ref 0, .int x1, .int x2]) true false kX10_fences_ok (by decide +kernel) (by decide +kernel) (by decide) (Two.mk rfl (Two.mk ⟨x1, rfl, i32_any x1⟩ (Two.mk ⟨x2, rfl, i32_any x2⟩ trivial))) hB hR hI
  cases f1 rfl
  have D1 : TXd M1 := hD.frm hB.1.1.sh F1 (by decide +kernel)
  obtain ⟨v2, M2, y2, E2, s2, F2, B2, f2, K2, D2⟩ := rel_r7 (cn := kX11_fences) (k := 6) (ws := [.ref 633, .int x1, .int x2]) true false kX11_fences_ok (by decide +kernel) (by decide +kernel) (by decide) (Two.mk rfl (Two.mk ⟨x1, rfl, i32_any x1⟩ (Two.mk ⟨x2, rfl, i32_any x2⟩ trivial))) B1
  cases f2 rfl
  have I2 : RIM PI M2 := I1.frm B1.1.1.sh F2 (by decide +kernel)
  have ez := hB.2.2.1.zi
  have hz8 := hB.2.2.1.rng hB.1.1
  have ew := B1.2.2.2.1.zi
  have hbl := hB.2.2.2.2.2.2.1.bl hN
  have hbr := B1.2.2.2.2.2.2.2.1.bl
  have C := fences_ok (o := rN M 2) (n := z.toInt.toNat) hC (by rw [ez]; omega) (fun _ _ => rfl) E1
  have R := rfences_ok (o := rN M 2) (n := z.toInt.toNat) R1 hC.ok.1 hC.ok.2.1 (b42 B1.1) (by rw [ew]; omega) (fun k hk => by
    have e : rN M 2 k = bL lt k := hbl k hk
    rw [e]
    exact congrFun hbr k) E2
  rw [ez] at C
  rw [ew] at R
  obtain ⟨r, X, rfl, rfl, C1, R2⟩ := al2 (C := fun X => CST T X PI M1) (R := fun X => RST T X M2) (fun a b => b a) (mF1 C) (mF2 R)
  exact ⟨r, M1, M2, E1, E2, B1.1, ⟨0, y, l, lb, lt, T, X, PI, B2, fun k hk => absurd hk (Nat.not_lt_zero k), K2 C1, D2 D1, R2, I2⟩⟩
/-! way -/
theorem wlS_len {hb : Nat} {goal : Int32} : ∀ (r : Nat) (s : Int32 × Int32 × Int32) (l : List Int32), (wlS T P hb goal r s l).1.length ≤ l.length + r := by
  intro r
  induction r with
  | zero => intro s l; exact Nat.le_refl _
  | succ r ih =>
    intro s l
    unfold wlS
    split
    · exact Nat.le_add_right _ _
    · split
      · exact Nat.le_add_right _ _
      · have q := ih (besP P s.1 (choP (T 0) P (T hb) (s.1, goal, s.2.1, s.2.2, true)), choP (T 0) P (T hb) (s.1, goal, s.2.1, s.2.2, true), s.1) (l ++ [besP P s.1 (choP (T 0) P (T hb) (s.1, goal, s.2.1, s.2.2, true))])
        rw [List.length_append] at q
        simp only [List.length_cons, List.length_nil] at q
        omega
theorem unD_of (hV : INV M) (hR : RST T P M) : unD P := by
  obtain ⟨t, l, e, _, hd⟩ := fl0_28 (hV.2 28 (by simp))
  have er : ∀ i x, i < 2314 → gNth l i = some x → x = P i := fun i x hi hx => by
    have q := hR.2.1 i hi
    unfold rN zrw at q
    rw [e] at q
    dsimp only at q
    rw [hx] at q
    exact q
  have len : l.length = 2314 := by
    have q := (hR.1.1.row qa_635 qw_63).2
    unfold zrw at q
    rw [e] at q
    exact q
  have at_ : ∀ i, i < 2314 → gNth l i = some (P i) := fun i hi => by
    obtain ⟨x, hx⟩ : ∃ x, gNth l i = some x := by
      rw [nth_eq]
      exact ⟨_, List.getElem?_eq_getElem (by omega)⟩
    rw [hx, er i x hi hx]
  obtain ⟨n9, h⟩ := hd _ _ _ (at_ 0 (by decide)) (at_ 1 (by decide)) (at_ 2 (by decide))
  intro i j hi hj q
  obtain ⟨a, b, ha, hb, _, hne⟩ := h i j hi hj
  rw [at_ _ (by omega)] at ha hb
  cases ha
  cases hb
  exact Classical.not_not.mp (fun r => hne r q)
set_option maxRecDepth 200000 in
theorem pj_27 {x1 x2 x3 : Int32} (hS : SV7 M) : ∃ r M1 M2, Ev none 999 115 0 [some (.ref 0), some (.int x1), some (.int x2), some (.int x3), none] [] M (some (.int r)) M1 0 0 ∧ Ev none 999 240 0 [some (.ref 633), some (.int x1), some (.int x2), some (.int x3), none, none] [] M1 (some (.int r)) M2 0 0 ∧ INV M1 ∧ SV7 M2 := by
  obtain ⟨z, y, l, lb, lt, T, P, PI, hB, hN, hC, hD, hR, hI⟩ := hS
  obtain ⟨v1, M1, y1, E1, s1, F1, B1, f1, R1, I1⟩ := rel_c7 (cn := kX10_way) (k := 5) (ws := [.ref 0, .int x1, .int x2, .int x3]) false false kX10_way_ok (by decide +kernel) (by decide +kernel) (by decide) (Two.mk rfl (Two.mk ⟨x1, rfl, i32_any x1⟩ (Two.mk ⟨x2, rfl, i32_any x2⟩ (Two.mk ⟨x3, rfl, i32_any x3⟩ trivial)))) hB hR hI
  cases f1 rfl
  have D1 : TXd M1 := hD.frm hB.1.1.sh F1 (by decide +kernel)
  obtain ⟨v2, M2, y2, E2, s2, F2, B2, f2, K2, D2⟩ := rel_r7 (cn := kX11_way) (k := 6) (ws := [.ref 633, .int x1, .int x2, .int x3]) false false kX11_way_ok (by decide +kernel) (by decide +kernel) (by decide) (Two.mk rfl (Two.mk ⟨x1, rfl, i32_any x1⟩ (Two.mk ⟨x2, rfl, i32_any x2⟩ (Two.mk ⟨x3, rfl, i32_any x3⟩ trivial)))) B1
  cases f2 rfl
  have I2 : RIM PI M2 := I1.frm B1.1.1.sh F2 (by decide +kernel)
  obtain ⟨C1, C⟩ := way_ok hC hB.1 (by decide) E1
  obtain ⟨R2, R⟩ := rway_ok R1 hC.ok.1 hC.ok.2.1 (unD_of B1.1 R1) (by unfold wayL; exact Nat.le_trans (wlS_len _ _ _) (Nat.le_refl 201)) E2
  have er : ∃ r, v1 = some (.int r) ∧ v2 = some (.int r) := by
    rcases C with ⟨c1, e1, _⟩ | ⟨c1, n1, _, e1⟩ <;> rcases R with ⟨c2, e2, _⟩ | ⟨c2, n2, _, e2⟩
    · exact ⟨_, e1, e2⟩
    · exact absurd c1 c2
    · exact absurd c2 c1
    · rcases e1 with ⟨w1, e1⟩ | ⟨w1, e1⟩ <;> rcases e2 with ⟨w2, y2, e2, l2⟩ | ⟨w2, e2⟩
      · refine ⟨_, e1, ?_⟩
        rw [e2]
        exact congrArg (fun q => some (Value.int q)) (Int32.toInt_inj.mp (by omega))
      · rw [w1] at w2; cases w2
      · rw [w1] at w2; cases w2
      · exact ⟨_, e1, e2⟩
  obtain ⟨r, rfl, rfl⟩ := er
  exact ⟨r, M1, M2, E1, E2, B1.1, ⟨z, y, l, lb, lt, T, P, PI, B2, hN, K2 C1, D2 D1, R2, I2⟩⟩
/-! law, habit -/
theorem B6.fc {y2 : Int32} (h : B6 z w y q l lb lt M) (hF : FCq y2 M) : B6 z w y2 q l lb lt M := by
  obtain ⟨a1, a2, a3, a4, a5, a6, a7, a8, _, a9⟩ := h
  exact ⟨a1, a2, a3, a4, a5, a6, a7, a8, hF, a9⟩
theorem B6.fr {q2 : Int32} (h : B6 z w y q l lb lt M) (hF : FRq q2 M) : B6 z w y q2 l lb lt M := by
  obtain ⟨a1, a2, a3, a4, a5, a6, a7, a8, a9, _⟩ := h
  exact ⟨a1, a2, a3, a4, a5, a6, a7, a8, a9, hF⟩
noncomputable def c8B (cn : CN) : Bool := ((invC cn && relC true cn) && byB cn) && (!mdIn cn.2.2.2.2.2.1 11 26 && (fxM cn.2.2.2.2.2.1 && (rstB cn.2.2.2.2.2.1 && rimB cn.2.2.2.2.2.1)))
set_option maxRecDepth 200000 in
theorem pj_4 (hS : SV7 M) : ∃ r M1 M2, Ev none 999 85 0 [some (.ref 0), none, none] [] M (some (.int r)) M1 0 0 ∧ Ev none 999 183 0 [some (.ref 633), none] [] M1 (some (.int r)) M2 0 0 ∧ INV M1 ∧ SV7 M2 := by
  obtain ⟨z, y, l, lb, lt, T, P, PI, hB, hN, hC, hD, hR, hI⟩ := hS
  obtain ⟨v1, M1, y1, E1, s1, F1, B1, f1, R1, I1⟩ := rel_c7 (cn := kX10_law) (k := 3) (ws := [.ref 0]) true true kX10_law_ok (by decide +kernel) (by decide +kernel) (by decide) (Two.mk rfl trivial) hB hR hI
  obtain ⟨v2, M2, y2, E2, s2, F2, B2, f2, K2, D2⟩ := rel_r7 (cn := kX11_law) (k := 2) (ws := [.ref 633]) true true kX11_law_ok (by decide +kernel) (by decide +kernel) (by decide) (Two.mk rfl trivial) B1
  have I2 : RIM PI M2 := I1.frm B1.1.1.sh F2 (by decide +kernel)
  have hz := hB.2.2.1.rng hB.1.1
  obtain ⟨⟨r1, e1, a1⟩, C1, D1, q1⟩ := lawS_ok (e := 996) (n := z.toInt.toNat) (B := bL lt) hC hD (by rw [hB.2.2.1.zi]; omega) (by omega) (hB.2.2.2.2.2.2.1.bl hN) E1
  have hbr := B1.2.2.2.2.2.2.2.1.bl
  obtain ⟨⟨r2, e2, a2⟩, R2⟩ := rlawS_ok (e := 996) (n := z.toInt.toNat) R1 (by omega) (by rw [B1.2.2.2.1.zi]; omega) (by omega) (by rw [hbr]; exact q1) E2
  rw [hbr] at a2 R2
  obtain ⟨_, _, _, g1⟩ := law6C hB.1 hB.2.1 hB.2.2.1 hB.2.2.2.2.2.2.1 hN E1
  obtain ⟨_, _, _, g2⟩ := law6R B1.1 B1.2.1 hz B1.2.2.2.1 B1.2.2.2.2.2.2.2.1 E2
  have er : r1 = r2 := Int32.toInt_inj.mp (a1.trans a2.symm)
  subst er e1 e2
  have g3 : FCq (fltB (RDl lt z true)) M2 := g1.frm F2 (md_no (by decide +kernel))
  exact ⟨r1, M1, M2, E1, E2, B1.1, ⟨0, fltB (RDl lt z true), l, lb, lt, _, P, PI, (B2.fc g3).fr g2, fun k hk => absurd hk (Nat.not_lt_zero k), K2 C1, D2 D1, R2, I2⟩⟩
set_option maxRecDepth 200000 in
theorem pj_5 {x1 : Int32} (hS : SV7 M) : ∃ r M1 M2, Ev none 999 86 0 [some (.ref 0), some (.int x1), none, none] [] M (some (.int r)) M1 0 0 ∧ Ev none 999 184 0 [some (.ref 633), some (.int x1)] [] M1 (some (.int r)) M2 0 0 ∧ INV M1 ∧ SV7 M2 := by
  obtain ⟨z, y, l, lb, lt, T, P, PI, hB, hN, hC, hD, hR, hI⟩ := hS
  obtain ⟨v1, M1, y1, E1, s1, F1, B1, f1, R1, I1⟩ := rel_c7 (cn := kX10_habit) (k := 4) (ws := [.ref 0, .int x1]) true true kX10_habit_ok (by decide +kernel) (by decide +kernel) (by decide) (Two.mk rfl (Two.mk ⟨x1, rfl, i32_any x1⟩ trivial)) hB hR hI
  obtain ⟨v2, M2, y2, E2, s2, F2, B2, f2, K2, D2⟩ := rel_r7 (cn := kX11_habit) (k := 2) (ws := [.ref 633, .int x1]) true true kX11_habit_ok (by decide +kernel) (by decide +kernel) (by decide) (Two.mk rfl (Two.mk ⟨x1, rfl, i32_any x1⟩ trivial)) B1
  have I2 : RIM PI M2 := I1.frm B1.1.1.sh F2 (by decide +kernel)
  have hz := hB.2.2.1.rng hB.1.1
  have hbr := B1.2.2.2.2.2.2.2.1.bl
  obtain ⟨r3, e3, a3, g1⟩ := hab6C (x := x1) hB.1 hB.2.1 hB.2.2.1 hB.2.2.2.2.2.2.1 hN hB.2.2.2.2.2.2.2.2.1 E1
  obtain ⟨r4, e4, a4, g2⟩ := hab6R (x := x1) B1.1 B1.2.1 hz B1.2.2.2.1 B1.2.2.2.2.2.2.2.1 B1.2.2.2.2.2.2.2.2.2 E2
  have er : r3 = r4 := Int32.toInt_inj.mp (a3.trans a4.symm)
  subst er
  have g3 : FCq (hbF lt z x1 y) M2 := g1.frm F2 (md_no (by decide +kernel))
  have fin : ∀ T', CST T' P PI M1 → TXd M1 → RST T' P M2 → ∃ r M1 M2, Ev none 999 86 0 [some (.ref 0), some (.int x1), none, none] [] M (some (.int r)) M1 0 0 ∧ Ev none 999 184 0 [some (.ref 633), some (.int x1)] [] M1 (some (.int r)) M2 0 0 ∧ INV M1 ∧ SV7 M2 := fun T' C1 D1 R2 => by
    rw [e3] at E1
    rw [e4] at E2
    exact ⟨r3, M1, M2, E1, E2, B1.1, ⟨0, hbF lt z x1 y, l, lb, lt, T', P, PI, (B2.fc g3).fr g2, fun k hk => absurd hk (Nat.not_lt_zero k), K2 C1, D2 D1, R2, I2⟩⟩
  by_cases hx : 0 ≤ x1.toInt ∧ x1.toInt ≤ 5
  · obtain ⟨_, C1, D1, q1⟩ := habS_ok (e := 996) (n := z.toInt.toNat) (B := bL lt) hC hD hx (by rw [hB.2.2.1.zi]; omega) (by omega) (hB.2.2.2.2.2.2.1.bl hN) E1
    have Z2 := frm_fz B1.1.1.sh F2
    obtain ⟨_, R2⟩ := rhabS_ok (e := 996) (n := z.toInt.toNat) R1 hx (by omega) (by rw [B1.2.2.2.1.zi]; omega) (by omega) (by rw [hbr]; exact q1) E2 (fun k h1 h2 => by
      have hk : k = 28 ∨ k = 29 ∨ k = 30 := by omega
      rcases hk with rfl | rfl | rfl
      · exact Z2.fi (one_F qa_633 qo_61 (by decide +kernel))
      · exact Z2.fi (one_F qa_633 qo_61 (by decide +kernel))
      · exact Z2.fi (one_F qa_633 qo_61 (by decide +kernel)))
    rw [hbr] at R2
    exact fin _ C1 D1 R2
  · obtain ⟨_, m1⟩ := hab_out hC.1 hx E1
    obtain ⟨_, m2⟩ := rhab_out R1.1 hx E2
    refine fin T (by rw [m1]; exact hC.tp) (by rw [m1]; exact hD.same fR_wF fR_wF (fun _ => (show FZ (fun a k => a = 1 ∧ k = 1) noO noO M (wF M 1 1 0) from FZ.wF ⟨rfl, rfl⟩).on (fun q => q))) ?_
    rw [m2]
    unfold X_139
    exact (((R1.w0 0 (by decide) _).w0 3 (by decide) _).w0 2 (by decide) _).w0 4 (by decide) _
/-! image, restore -/
theorem KC.rn {k : Nat} (h : KC l M) : rN M 340 k = (gNth l k).getD 0 := by
  unfold rN zrw
  have h : gNth M 340 = some (.inl (3, .inl l)) := h
  rw [h]
theorem KR.rn {k : Nat} (h : KR l M) : rN M 638 k = (gNth l k).getD 0 := by
  unfold rN zrw
  have h : gNth M 638 = some (.inl (3, .inl l)) := h
  rw [h]
set_option maxRecDepth 200000 in
theorem pj_32 {x1 : Int32} (hS : SV7 M) : ∃ r M1 M2, Ev none 999 123 0 [some (.ref 0), some (.int x1)] [] M (some (.int r)) M1 0 0 ∧ Ev none 999 246 0 [some (.ref 633), some (.int x1), none] [] M1 (some (.int r)) M2 0 0 ∧ INV M1 ∧ SV7 M2 := by
  obtain ⟨z, y, l, lb, lt, T, P, PI, hB, hN, hC, hD, hR, hI⟩ := hS
  obtain ⟨M1, E1, V1, F1, k1⟩ := ev_imageC (e := 997) (x := x1) hB.1 hB.2.2.2.2.1
  have hX1 := hB.2.1.frm hB.1.1.sh F1 (by decide +kernel)
  have S1 : SQ M1 := ⟨V1.1.sh, hX1⟩
  obtain ⟨M2, E2, V2, F2, k2⟩ := ev_imageR (e := 998) (k := x1) V1 (hB.2.2.2.2.2.1.frm F1 (by decide +kernel))
  have hX2 := hX1.frm V1.1.sh F2 (by decide +kernel)
  have S2 : SQ M2 := ⟨V2.1.sh, hX2⟩
  obtain ⟨_, _, hc, hr, _, _, hp, hq, hf, hg⟩ := hB
  have hS := hC.1.1
  have R1 := hR.frm S1 F1 (by decide +kernel)
  have I1 := hI.frm hS F1 (by decide +kernel)
  have B2 : B6 z z y y (imK l x1) lb lt M2 := ⟨V2, hX2, (hc.frm F1 (by decide +kernel)).frm F2 (by decide +kernel), (hr.frm F1 (by decide +kernel)).frm F2 (by decide +kernel), k1.frm F2 (by decide +kernel), k2, (hp.frm F1 (by decide +kernel)).frm F2 (by decide +kernel), (hq.frm F1 (by decide +kernel)).frm F2 (by decide +kernel), (hf.frm F1 (by decide +kernel)).frm F2 (by decide +kernel), (hg.frm F1 (by decide +kernel)).frm F2 (by decide +kernel)⟩
  have D2 : TXd M2 := (hD.frm hS F1 (by decide +kernel)).frm V1.1.sh F2 (by decide +kernel)
  rcases image_ok hC E1 with ⟨c1, _, e1⟩ | ⟨c1, _, C1⟩ <;> rcases rimage_ok R1 I1 E2 with ⟨c2, _, R2, I2⟩ | ⟨c2, _, R2, I2⟩
  · exact ⟨_, M1, M2, E1, E2, V1, ⟨z, y, _, lb, lt, T, P, PI, B2, hN, (show CST T P PI M1 by rw [e1]; exact hC).frm S2 F2 (by decide +kernel), D2, R2, I2⟩⟩
  · exact absurd c2 c1
  · exact absurd c1 c2
  · exact ⟨_, M1, M2, E1, E2, V1, ⟨z, y, _, lb, lt, T, P, _, B2, hN, C1.frm S2 F2 (by decide +kernel), D2, R2, I2⟩⟩
set_option maxRecDepth 200000 in
theorem pj_33 {x1 : Int32} (hS : SV7 M) : ∃ r M1 M2, Ev none 999 124 0 [some (.ref 0), some (.int x1)] [] M (some (.int r)) M1 0 0 ∧ Ev none 999 247 0 [some (.ref 633), some (.int x1), none] [] M1 (some (.int r)) M2 0 0 ∧ INV M1 ∧ SV7 M2 := by
  obtain ⟨z, y, l, lb, lt, T, P, PI, hB, hN, hC, hD, hR, hI⟩ := hS
  obtain ⟨v1, M1, y1, E1, s1, F1, B1, f1, R1, I1⟩ := rel_c7 (cn := kX10_restore) (k := 2) (ws := [.ref 0, .int x1]) false false kX10_restore_ok (by decide +kernel) (by decide +kernel) (by decide) (Two.mk rfl (Two.mk ⟨x1, rfl, i32_any x1⟩ trivial)) hB hR hI
  cases f1 rfl
  have D1 : TXd M1 := hD.frm hB.1.1.sh F1 (by decide +kernel)
  obtain ⟨v2, M2, y2, E2, s2, F2, B2, f2, K2, D2⟩ := rel_r7 (cn := kX11_restore) (k := 3) (ws := [.ref 633, .int x1]) false false kX11_restore_ok (by decide +kernel) (by decide +kernel) (by decide) (Two.mk rfl (Two.mk ⟨x1, rfl, i32_any x1⟩ trivial)) B1
  cases f2 rfl
  have I2 : RIM PI M2 := I1.frm B1.1.1.sh F2 (by decide +kernel)
  have C := restore_ok hC E1
  have R := rrest_ok R1 I1 E2
  rw [hB.2.2.2.2.1.rn] at C
  rw [B1.2.2.2.2.2.1.rn] at R
  rcases C with ⟨c1, rfl, e1⟩ | ⟨c1, d1, rfl, C1⟩ <;> rcases R with ⟨c2, rfl, R2⟩ | ⟨c2, d2, rfl, R2⟩
  · exact ⟨_, M1, M2, E1, E2, B1.1, ⟨z, y, l, lb, lt, T, P, PI, B2, hN, K2 (by rw [e1]; exact hC), D2 D1, R2, I2⟩⟩
  · exact absurd c1 (fun q => q.elim (fun q => q c2) d2)
  · exact absurd c2 (fun q => q.elim (fun q => q c1) d1)
  · exact ⟨_, M1, M2, E1, E2, B1.1, ⟨z, y, l, lb, lt, T, _, PI, B2, hN, K2 C1, D2 D1, R2, I2⟩⟩
end REL7
/-! THE WHOLE STATE: at the start, and beside what else is there -/
def P00 : PK := fun j => if j = 0 ∨ j = 1 then 4 else 0
noncomputable def T00 : TS := fun _ => (([], 0, []), [])
def fF (a _k : Nat) : Prop := 663 ≤ a
def fW (a : Nat) : Prop := 663 ≤ a
section ST7
variable {z w y q x1 x2 : Int32} {l lb lt : List Int32} {T T' : TS} {P Q : PK} {PI : Nat → PK} {M M1 M2 M' : Mem} {a k n j : Nat}
theorem SV7.mk (h : SV6 M) (h7 : S7 T P PI M) : SV7 M := by
  obtain ⟨a1, a2, z, y, l, lb, lt, a3, a4, a5, a6, a7, a8, hN, a9, a10⟩ := h
  exact ⟨z, y, l, lb, lt, T, P, PI, ⟨a1, a2, a3, a4, a5, a6, a7, a8, a9, a10⟩, hN, h7⟩
theorem CST.far (h : CST T P PI M) (hS : SQ M') (hF : FZ fF fW fW M M') : CST T P PI M' := by
  refine h.scr hS hF ⟨by unfold fF; omega, by unfold fF; omega, by unfold fF; omega⟩ (fun L hL _ => ⟨fun a k q1 q2 => ?_, fun a q1 q2 => ?_⟩) (fun t ht => ⟨fun k => ?_, fun k k1 k8 => ?_⟩) ⟨by unfold fW; omega, by unfold fW; omega, by unfold fW; omega⟩ (fun L hL _ => ?_) (fun L hL => ⟨fun k hk => (hF.on ?_).trans ((h.2.2.2.2.2.1 L hL).1 k hk), (h.2.2.2.2.2.1 L hL).2.on (fun j => hF.on ?_)⟩) (h.2.2.2.2.1.fz hF (by unfold fF; omega) (by unfold fF; omega) (fun a _ _ => by unfold fW; omega)) (by unfold fW; omega)
  · have := ld_cases hL
    unfold fF
    omega
  · have := ld_cases hL
    unfold fW
    omega
  · have := tx_cases ht
    unfold fF
    omega
  · have := tx_cases ht
    unfold fW
    omega
  all_goals
    have := ld_cases hL
    unfold fW
    omega
theorem S7.far (h : S7 T P PI M) (hS : SQ M') (hF : FZ fF fW fW M M') : S7 T P PI M' := by
  obtain ⟨h1, h2, h3, h4⟩ := h
  exact ⟨h1.far hS hF, h2.same (hF.fr (by unfold fF; omega)) (hF.fr (by unfold fF; omega)) (fun j => hF.on (by unfold fW; omega)), h3.fz hS hF (fun k _ _ => by unfold fF; omega) (fun a ha => by unfold fW; omega), h4.fz hF ⟨by unfold fW; omega, by unfold fW; omega⟩⟩
theorem FZ.eq {F : Nat → Nat → Prop} {W O : Nat → Prop} (h : ∀ a, a < 663 → gNth M' a = gNth M a) (hf : ∀ a k, 663 ≤ a → F a k) (hw : ∀ a, 663 ≤ a → W a) (ho : ∀ a, 663 ≤ a → O a) : FZ F W O M M' := by
  refine ⟨fun a k q => ?_, fun b q => ?_, fun b q => ?_⟩
  · have e := h a (by
      rcases Nat.lt_or_ge a 663 with r | r
      · exact r
      · exact absurd (hf a k r) q)
    unfold fV
    rw [e]
  · have e := h b (by
      rcases Nat.lt_or_ge b 663 with r | r
      · exact r
      · exact absurd (hw b r) q)
    unfold zrw
    rw [e]
  · have e := h b (by
      rcases Nat.lt_or_ge b 663 with r | r
      · exact r
      · exact absurd (ho b r) q)
    unfold roL
    rw [e]
set_option maxRecDepth 200000 in
theorem st_len : sT.length = 664 := by decide +kernel
theorem st_gr : (List.range 664).all (fun a => match gNth sT a with
  | some g => (gNth sG g).isSome
  | none => false) = true := by decide +kernel
theorem SV7.app (h : SV7 M) (e : AE) : SV7 (M ++ [e]) := by
  have h6 := h.six.app e
  obtain ⟨z, y, l, lb, lt, T, P, PI, hB, hN, h7⟩ := h
  refine SV7.mk h6 (h7.far ⟨h6.1.1.sh, h6.2.1⟩ (FZ.eq (fun a ha => ?_) (fun _ _ q => q) (fun _ q => q) (fun _ q => q)))
  obtain ⟨g, hg⟩ : ∃ g, gNth sT a = some g := by
    rw [nth_eq]
    exact ⟨_, List.getElem?_eq_getElem (by rw [st_len]; omega)⟩
  have hq := List.all_eq_true.mp st_gr a (List.mem_range.mpr (by omega))
  rw [hg] at hq
  have hq : (gNth sG g).isSome = true := hq
  obtain ⟨ct, hct⟩ := Option.isSome_iff_exists.mp hq
  obtain ⟨x, h1, _⟩ := hB.1.1.at hg hct
  rw [nth_app h1, h1]
theorem SV7.out (h : SV7 M) : ∃ l : List Int64, gNth M 663 = some (.inl (2, .inr (.inl l))) ∧ l.length = 1 ∧ ∀ z : Int64, SV7 (gPut M 663 (.inl (2, .inr (.inl (gPut l 0 z))))) := by
  obtain ⟨l, l1, l2, l3⟩ := h.six.out
  refine ⟨l, l1, l2, fun z9 => ?_⟩
  have h6 := l3 z9
  obtain ⟨z, y, l', lb, lt, T, P, PI, hB, hN, h7⟩ := h
  refine SV7.mk h6 (h7.far ⟨h6.1.1.sh, h6.2.1⟩ (FZ.eq (fun a ha => ?_) (fun _ _ q => q) (fun _ q => q) (fun _ q => q)))
  rw [nth_put, if_neg (fun q => by omega)]
set_option maxRecDepth 200000 in
theorem pj_14 (hS : SV7 M) : ∃ r M2, Ev none 999 214 0 [some (.ref 633), some (.int x1), some (.int x2)] [] M (some (.int r)) M2 0 0 ∧ SV7 M2 := by
  obtain ⟨z, y, l, lb, lt, T, P, PI, hB, hN, hC, hD, hR, hI⟩ := hS
  obtain ⟨v2, M2, y2, E2, s2, F2, B2, f2, K2, D2⟩ := rel_r7 (cn := kX11_cell) (k := 3) (ws := [.ref 633, .int x1, .int x2]) false false kX11_cell_ok (by decide +kernel) (by decide +kernel) (by decide) (Two.mk rfl (Two.mk ⟨x1, rfl, i32_any x1⟩ (Two.mk ⟨x2, rfl, i32_any x2⟩ trivial))) hB
  cases f2 rfl
  have S2 : SQ M2 := ⟨B2.1.1.sh, B2.2.1⟩
  obtain ⟨r2, rfl⟩ := ret_i (by decide) s2
  exact ⟨r2, M2, E2, ⟨z, y, l, lb, lt, T, P, PI, B2, hN, K2 hC, D2 hD, hR.frm S2 F2 (by decide +kernel), hI.frm hB.1.1.sh F2 (by decide +kernel)⟩⟩
/-! the start -/
theorem zr_rN {kd : Nat} (h : zrB a kd n = true) (hj : n ≤ j) : rN mem0 a j = 0 := by
  obtain ⟨l, e, h2⟩ := zrB_V h
  unfold rN zrw
  rw [e]
  dsimp only
  cases hx : gNth l j with
  | none => rfl
  | some x => exact h2 j x hx hj
set_option maxRecDepth 200000 in
theorem s0_r : ([9, 10, 11, 12, 13, 14, 15, 16].all (fun a => zrB a 1 0) && (zrB 340 3 0 && (zrB 638 3 0 && (zrB 639 1 0 && zrB 635 1 2)))) = true := by decide +kernel
set_option maxRecDepth 200000 in
theorem s0_z : ([(8, 0, 4), (8, 1, 4), (8, 11, 0), (8, 13, 0), (8, 15, 0), (8, 16, 0), (8, 17, 0), (8, 18, 0), (8, 19, 0), (105, 3, 0), (105, 4, 0), (633, 28, 40), (633, 29, 50), (633, 30, 10)] : List (Nat × Nat × Int32)).all (fun q => decide (zI mem0 q.1 q.2.1 = q.2.2)) = true := by decide +kernel
set_option maxRecDepth 200000 in
theorem s0_t : ([110, 138, 147, 156, 165, 174, 183] : List Nat).all (fun t => ([(8, 0), (9, 0), (10, 40), (11, 50), (12, 10), (13, 3)] : List (Nat × Int32)).all (fun q => decide (zI mem0 t q.1 = q.2))) = true := by decide +kernel
set_option maxRecDepth 200000 in
theorem s0_f : (Nat.beq (fR mem0 0 2) 8 && (Nat.beq (fR mem0 0 6) 243 && (Nat.beq (fR mem0 104 2) 110 && Nat.beq (fR mem0 104 3) 119))) = true := by decide +kernel
set_option maxRecDepth 200000 in
theorem s0_o : ((List.range 7).all (fun m => Nat.beq (oN mem0 129 m) (130 + m)) && ((List.range 3).all (fun m => Nat.beq (oN mem0 339 m) (imgA m)) && (List.range 6).all (fun m => Nat.beq (oN mem0 109 m) (138 + 9 * m)))) = true := by decide +kernel
set_option maxRecDepth 200000 in
theorem s0_l : fxA.all (fun L => (List.range 24).all (fun k => Nat.beq (oN mem0 (L + 10) k) (L + 12 + k)) && (List.range 60).all (fun k => Nat.beq (oN mem0 (L + 11) k) (L + 36 + k))) = true := by decide +kernel
set_option maxRecDepth 200000 in
theorem s0_w : decide (rN mem0 635 0 = 4) = true ∧ decide (rN mem0 635 1 = 4) = true := by constructor <;> decide +kernel
theorem p00_0 (h : 2 ≤ j) : P00 j = 0 := if_neg (by omega)
theorem s0_zi {x : Int32} (h : (a, k, x) ∈ ([(8, 0, 4), (8, 1, 4), (8, 11, 0), (8, 13, 0), (8, 15, 0), (8, 16, 0), (8, 17, 0), (8, 18, 0), (8, 19, 0), (105, 3, 0), (105, 4, 0), (633, 28, 40), (633, 29, 50), (633, 30, 10)] : List (Nat × Nat × Int32))) : zI mem0 a k = x := of_decide_eq_true (List.all_eq_true.mp s0_z _ h)
theorem s0_tx {t : Nat} (h : t ∈ ([110, 138, 147, 156, 165, 174, 183] : List Nat)) : TXT mem0 t (([], 0, []), []) := by
  have g := List.all_eq_true.mp s0_t _ h
  have f : ∀ k x, (k, x) ∈ ([(8, 0), (9, 0), (10, 40), (11, 50), (12, 10), (13, 3)] : List (Nat × Int32)) → zI mem0 t k = x := fun k x hk => of_decide_eq_true (List.all_eq_true.mp g _ hk)
  refine ⟨⟨by rw [f 8 0 (by simp)]; rfl, Nat.zero_le _, fun j l hj => by cases hj⟩, ⟨by rw [f 9 0 (by simp)]; rfl, Nat.zero_le _, fun j c hj => by cases hj⟩, f 10 40 (by simp), f 11 50 (by simp), f 12 10 (by simp), f 13 3 (by simp)⟩
theorem lw_00 : LW (([], 0, []), []) := fun l hl => by cases hl
theorem S70 : S7 T00 P00 (fun _ => P00) mem0 := by
  obtain ⟨rc, hr⟩ := and_t s0_r
  obtain ⟨r340, hr⟩ := and_t hr
  obtain ⟨r638, hr⟩ := and_t hr
  obtain ⟨r639, r635⟩ := and_t hr
  obtain ⟨f1, hf⟩ := and_t s0_f
  obtain ⟨f2, hf⟩ := and_t hf
  obtain ⟨f3, f4⟩ := and_t hf
  obtain ⟨o1, ho⟩ := and_t s0_o
  obtain ⟨o2, o3⟩ := and_t ho
  have S : SQ mem0 := ⟨tm0.sh, FX0⟩
  have t0 : (0 : Int32).toInt = 0 := rfl
  have t4 : (4 : Int32).toInt = 4 := rfl
  have q0 : P00 0 = 4 := rfl
  have q1 : P00 1 = 4 := rfl
  have e109 : ∀ m, m < 6 → oN mem0 109 m = 138 + 9 * m := fun m hm => Nat.eq_of_beq_eq_true (List.all_eq_true.mp o3 m (List.mem_range.mpr hm))
  have hL : ∀ L, gNth sT L = some 8 → (∀ k, k < 24 → oN mem0 (L + 10) k = L + 12 + k) ∧ ∀ k, k < 60 → oN mem0 (L + 11) k = L + 36 + k := fun L h8 => by
    have hm : L ∈ fxA := by
      have := ld_cases h8
      unfold fxA
      simp only [List.mem_cons, List.not_mem_nil, or_false]
      exact this
    obtain ⟨c1, c2⟩ := and_t (List.all_eq_true.mp s0_l L hm)
    exact ⟨fun k hk => Nat.eq_of_beq_eq_true (List.all_eq_true.mp c1 k (List.mem_range.mpr hk)), fun k hk => Nat.eq_of_beq_eq_true (List.all_eq_true.mp c2 k (List.mem_range.mpr hk))⟩
  have row : ∀ a, 9 ≤ a → a ≤ 16 → ∀ j, rN mem0 a j = 0 := fun a h1 h2 j => zr_rN (kd := 1) (n := 0) (List.all_eq_true.mp rc a (by simp only [List.mem_cons, List.not_mem_nil, or_false]; omega)) (Nat.zero_le _)
  have okC : ∀ c, okC1 (60 * (P00 518).toInt.toNat) P00 c := fun c => by
    have e : ∀ f, cE P00 f c = 0 := fun f => p00_0 (by unfold cX; omega)
    unfold okC1
    rw [e 0, e 2, e 3, e 4, e 5, e 6, p00_0 (show 2 ≤ 518 by decide)]
    decide
  have ok : okA P00 := by
    refine ⟨⟨⟨by decide, by decide, by decide, by decide⟩, ⟨by decide, by decide, fun d hd => ?_⟩, by decide, by decide, fun k hk => ?_⟩, ⟨by decide, by decide, fun k hk => ?_⟩, ⟨by decide, by decide⟩, fun c _ => okC c⟩
    · rw [p00_0 (by decide)] at hd
      exact absurd hd (Nat.not_lt_zero _)
    · rw [p00_0 (by decide)] at hk
      exact absurd hk (Nat.not_lt_zero _)
    · rw [p00_0 (by decide)] at hk
      exact absurd hk (Nat.not_lt_zero _)
  have hA : LAN 8 P00 mem0 := by
    refine ⟨⟨s0_zi (x := 4) (by simp), s0_zi (x := 4) (by simp), ⟨s0_zi (x := 0) (by simp), fun d hd => ?_⟩, s0_zi (x := 0) (by simp), fun k hk => ?_⟩, ⟨s0_zi (x := 0) (by simp), s0_zi (x := 0) (by simp), s0_zi (x := 0) (by simp), s0_zi (x := 0) (by simp)⟩, fun k f hk hf => ?_, ⟨s0_zi (x := 0) (by simp), fun k hk => ?_⟩, fun c hc => ?_⟩
    · rw [p00_0 (by decide)] at hd
      exact absurd hd (Nat.not_lt_zero _)
    · rw [p00_0 (by decide)] at hk
      exact absurd hk (Nat.not_lt_zero _)
    · rw [row _ (by omega) (by omega), p00_0 (by omega)]
    · rw [p00_0 (by decide)] at hk
      exact absurd hk (Nat.not_lt_zero _)
    · show rN mem0 16 _ = _
      rw [row 16 (by decide) (by decide), p00_0 (by decide)]
      rfl
  refine ⟨⟨S, ⟨Nat.eq_of_beq_eq_true f1, Nat.eq_of_beq_eq_true f2, fun k hk => Nat.eq_of_beq_eq_true (List.all_eq_true.mp o2 k (List.mem_range.mpr hk))⟩, ⟨⟨?_, lw_00⟩, fun h hh => ⟨?_, lw_00⟩⟩, fun m hm => Nat.eq_of_beq_eq_true (List.all_eq_true.mp o1 m (List.mem_range.mpr hm)), fun i hi => ?_, fun L h8 => ⟨(hL L h8).1, fun j k hj hk q => ?_, fun k hk => ?_⟩, ⟨ok, hA⟩, fun k hk hr => ?_⟩, fun i j hi hj q => ?_, ⟨S, fun i hi => ?_, ⟨s0_zi (x := 40) (by simp), s0_zi (x := 50) (by simp), s0_zi (x := 10) (by simp)⟩, fun t ht => ⟨⟨⟨⟨?_, Nat.zero_le _, fun j l hj => by cases hj⟩, fun j c _ hj => by cases hj⟩, lw_00⟩, Nat.zero_le _⟩⟩, fun k hk hr => ?_⟩
  · rw [Nat.eq_of_beq_eq_true f3]
    exact s0_tx (by simp)
  · rw [e109 h hh]
    exact s0_tx (by simp only [List.mem_cons, List.not_mem_nil, or_false]; omega)
  · rw [s0_zi (a := 105) (k := 3) (x := 0) (by simp)] at hi
    rw [t0] at hi
    simp at hi
  · rw [(hL L h8).2 j hj, (hL L h8).2 k hk] at q
    omega
  · rw [(hL L h8).2 k hk]
    omega
  · exact absurd (zr_rN r340 (Nat.zero_le _)) hr
  · have e : ∀ i, i < 8 → txr mem0 i = if i = 0 then 110 else if i = 7 then 119 else 138 + 9 * (i - 1) := fun i hi => by
      unfold txr
      by_cases h0 : i = 0
      · rw [if_pos h0, if_pos h0]
        exact Nat.eq_of_beq_eq_true f3
      · rw [if_neg h0, if_neg h0]
        by_cases h7 : i = 7
        · rw [if_pos h7, if_pos h7]
          exact Nat.eq_of_beq_eq_true f4
        · rw [if_neg h7, if_neg h7]
          exact e109 _ (by omega)
    rw [e i hi, e j hj] at q
    split at q <;> split at q <;> (try split at q) <;> (try split at q) <;> omega
  · rcases Nat.lt_or_ge i 2 with r | r
    · have hi2 : i = 0 ∨ i = 1 := by omega
      rcases hi2 with rfl | rfl
      · exact of_decide_eq_true s0_w.1
      · exact of_decide_eq_true s0_w.2
    · rw [zr_rN r635 r, p00_0 r]
  · rw [zr_rN r639 (Nat.zero_le _)]
    rfl
  · exact absurd (zr_rN r638 (Nat.zero_le _)) hr
theorem SV70 : SV7 mem0 := SV7.mk SV60 S70
end ST7
