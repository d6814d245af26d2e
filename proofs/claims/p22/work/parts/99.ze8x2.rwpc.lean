/-! THE REFERENCE'S ways: pieces (made by gref8.py) -/
noncomputable def G_239 (M : Mem) (a : Int32) (b : Int32) (h : Int32) : Int32 := if (G_152 M a) = 0 then 0 else (if (G_152 M b) = 0 then 0 else (if a = b then 0 else (if (G_140 M h 0 5) = 0 then 0 else 1)))
theorem g_239 {e : Nat} {M M' : Mem} {v : Option Value} {a b h : Int32} (hS : SQ M) (H : Ev none e 239 0 [some (.ref 633), some (.int a), some (.int b), some (.int h)] [] M v M' 0 0) : v = some (.int (G_239 M a b h)) ∧ M' = M := by
  unfold G_239
  have H : Ev none e 239 2 [some (.ref 633), some (.int a), some (.int b), some (.int h)] [.int a, .ref 633] M v M' 0 0 := Ev.back 2 (fun n => rfl) H
  obtain ⟨e1, rfl⟩ := Ev.dpos rfl rfl H
  obtain ⟨vK1, MK1, K1, H⟩ := Ev.callb (fun n_ => gs_7 rfl rfl (show gCal (.invokevirtual 340) 11 (.int a :: .ref 633 :: []) M = some (.inr (152, [some (.ref 633), some (.int a)], [])) from by show @cond (Option ((List Value × Mem) ⊕ (Nat × Lo × List Value))) (true && gRecv M (.ref 633) 11 && gRoom [] && true) (some (.inr (152, [some (.ref 633), some (.int a)], []))) none = _; rw [recv_s hS.1 qa_633 qo_61]; rfl)) H
  obtain ⟨pK1, qK1⟩ := g_152 hS K1
  rw [pK1, qK1] at H
  have H : Ev none (e1 + 1) 239 5 [some (.ref 633), some (.int a), some (.int b), some (.int h)] [.int (G_152 M a)] M v M' 0 0 := H
  have H : Ev none (e1 + 1) 239 (if (G_152 M a) = 0 then 34 else 8) [some (.ref 633), some (.int a), some (.int b), some (.int h)] [] M v M' 0 0 := Ev.back 1 (fun n => rfl) H
  by_cases h2 : (G_152 M a) = 0
  · rw [if_pos h2] at H
    have H : Ev none (e1 + 1) 239 35 [some (.ref 633), some (.int a), some (.int b), some (.int h)] [.int 0] M v M' 0 0 := Ev.back 1 (fun n => rfl) H
    obtain ⟨p1, p2⟩ := Ev.retz rfl rfl H
    exact ⟨by rw [if_pos h2]; exact p1, p2⟩
  · rw [if_neg h2] at H
    have H : Ev none (e1 + 1) 239 10 [some (.ref 633), some (.int a), some (.int b), some (.int h)] [.int b, .ref 633] M v M' 0 0 := Ev.back 2 (fun n => rfl) H
    obtain ⟨vK3, MK3, K3, H⟩ := Ev.callb (fun n_ => gs_7 rfl rfl (show gCal (.invokevirtual 340) 11 (.int b :: .ref 633 :: []) M = some (.inr (152, [some (.ref 633), some (.int b)], [])) from by show @cond (Option ((List Value × Mem) ⊕ (Nat × Lo × List Value))) (true && gRecv M (.ref 633) 11 && gRoom [] && true) (some (.inr (152, [some (.ref 633), some (.int b)], []))) none = _; rw [recv_s hS.1 qa_633 qo_61]; rfl)) H
    obtain ⟨pK3, qK3⟩ := g_152 hS K3
    rw [pK3, qK3] at H
    have H : Ev none (e1 + 1) 239 13 [some (.ref 633), some (.int a), some (.int b), some (.int h)] [.int (G_152 M b)] M v M' 0 0 := H
    have H : Ev none (e1 + 1) 239 (if (G_152 M b) = 0 then 34 else 16) [some (.ref 633), some (.int a), some (.int b), some (.int h)] [] M v M' 0 0 := Ev.back 1 (fun n => rfl) H
    by_cases h4 : (G_152 M b) = 0
    · rw [if_pos h4] at H
      have H : Ev none (e1 + 1) 239 35 [some (.ref 633), some (.int a), some (.int b), some (.int h)] [.int 0] M v M' 0 0 := Ev.back 1 (fun n => rfl) H
      obtain ⟨p1, p2⟩ := Ev.retz rfl rfl H
      exact ⟨by rw [if_neg h2, if_pos h4]; exact p1, p2⟩
    · rw [if_neg h4] at H
      have H : Ev none (e1 + 1) 239 (if a = b then 34 else 21) [some (.ref 633), some (.int a), some (.int b), some (.int h)] [] M v M' 0 0 := Ev.back 3 (fun n => rfl) H
      by_cases h5 : a = b
      · rw [if_pos h5] at H
        have H : Ev none (e1 + 1) 239 35 [some (.ref 633), some (.int a), some (.int b), some (.int h)] [.int 0] M v M' 0 0 := Ev.back 1 (fun n => rfl) H
        obtain ⟨p1, p2⟩ := Ev.retz rfl rfl H
        exact ⟨by rw [if_neg h2, if_neg h4, if_pos h5]; exact p1, p2⟩
      · rw [if_neg h5] at H
        have H : Ev none (e1 + 1) 239 24 [some (.ref 633), some (.int a), some (.int b), some (.int h)] [.int 5, .int 0, .int h] M v M' 0 0 := Ev.back 3 (fun n => rfl) H
        obtain ⟨vK6, MK6, K6, H⟩ := Ev.callb (fun n => rfl) H
        obtain ⟨pK6, qK6⟩ := g_140 hS K6
        rw [pK6, qK6] at H
        have H : Ev none (e1 + 1) 239 27 [some (.ref 633), some (.int a), some (.int b), some (.int h)] [.int (G_140 M h 0 5)] M v M' 0 0 := H
        have H : Ev none (e1 + 1) 239 (if (G_140 M h 0 5) = 0 then 34 else 30) [some (.ref 633), some (.int a), some (.int b), some (.int h)] [] M v M' 0 0 := Ev.back 1 (fun n => rfl) H
        by_cases h7 : (G_140 M h 0 5) = 0
        · rw [if_pos h7] at H
          have H : Ev none (e1 + 1) 239 35 [some (.ref 633), some (.int a), some (.int b), some (.int h)] [.int 0] M v M' 0 0 := Ev.back 1 (fun n => rfl) H
          obtain ⟨p1, p2⟩ := Ev.retz rfl rfl H
          exact ⟨by rw [if_neg h2, if_neg h4, if_neg h5, if_pos h7]; exact p1, p2⟩
        · rw [if_neg h7] at H
          have H : Ev none (e1 + 1) 239 35 [some (.ref 633), some (.int a), some (.int b), some (.int h)] [.int 1] M v M' 0 0 := Ev.back 2 (fun n => rfl) H
          obtain ⟨p1, p2⟩ := Ev.retz rfl rfl H
          exact ⟨by rw [if_neg h2, if_neg h4, if_neg h5, if_neg h7]; exact p1, p2⟩
theorem rwk_0 {e : Nat} {M M' : Mem} {v : Option Value} {a b h : Int32} (hS : SQ M) (H : Ev none e 238 0 [some (.ref 633), some (.int a), some (.int b), some (.int h), none, none] [] M v M' 0 0) : (0 ≤ (3 + a).toInt ∧ (3 + a).toInt < 2314) ∧ (0 ≤ (3 + b).toInt ∧ (3 + b).toInt < 2314) ∧ (0 ≤ (0 : Int32).toInt ∧ (0 : Int32).toInt < 201) ∧ Ev none e 238 64 [some (.ref 633), some (.int a), some (.int b), some (.int h), some (.int 0), none] [] (wI (wF (wF (wF (wF (wF (wF (wF M 633 34 (rI M 635 (3 + a))) 633 35 (rI M 635 (3 + b))) 633 36 (1 + h)) 633 37 (-1)) 633 38 (-1)) 633 39 1) 633 60 1) 657 ((0 : Int32).toNatClampNeg) (rI M 635 (3 + a))) v M' 0 0 := by
  have H : Ev none e 238 2 [some (.ref 633), some (.int a), some (.int b), some (.int h), none, none] [.ref 633, .ref 633] M v M' 0 0 := Ev.back 2 (fun n => rfl) H
  have H : Ev none e 238 5 [some (.ref 633), some (.int a), some (.int b), some (.int h), none, none] [.ref 635, .ref 633] M v M' 0 0 := Ev.back 1 (gs_3 rfl rfl (gf_u hS.1 qa_633 qr_61_5 qu_63 rfl)) H
  have H : Ev none e 238 8 [some (.ref 633), some (.int a), some (.int b), some (.int h), none, none] [.int (3 + a), .ref 635, .ref 633] M v M' 0 0 := Ev.back 3 (fun n => rfl) H
  obtain ⟨b1, H⟩ := Ev.ial rfl rfl hS.1 qa_635 qw_63 H
  have H : Ev none e 238 9 [some (.ref 633), some (.int a), some (.int b), some (.int h), none, none] [.int (rI M 635 (3 + a)), .ref 633] M v M' 0 0 := H
  obtain ⟨N3, eN3⟩ : ∃ N, N = (wF M 633 34 (rI M 635 (3 + a))) := ⟨_, rfl⟩
  have hN3 : SQ N3 := by rw [eN3]; exact hS.kf
  have H : Ev none e 238 12 [some (.ref 633), some (.int a), some (.int b), some (.int h), none, none] [] N3 v M' 0 0 := by rw [eN3]; exact Ev.pfi rfl rfl rfl hS.1 qa_633 qi_61_34 H
  have H : Ev none e 238 14 [some (.ref 633), some (.int a), some (.int b), some (.int h), none, none] [.ref 633, .ref 633] N3 v M' 0 0 := Ev.back 2 (fun n => rfl) H
  have H : Ev none e 238 17 [some (.ref 633), some (.int a), some (.int b), some (.int h), none, none] [.ref 635, .ref 633] N3 v M' 0 0 := Ev.back 1 (gs_3 rfl rfl (gf_u hN3.1 qa_633 qr_61_5 qu_63 rfl)) H
  have H : Ev none e 238 20 [some (.ref 633), some (.int a), some (.int b), some (.int h), none, none] [.int (3 + b), .ref 635, .ref 633] N3 v M' 0 0 := Ev.back 3 (fun n => rfl) H
  obtain ⟨b4, H⟩ := Ev.ial rfl rfl hN3.1 qa_635 qw_63 H
  have H : Ev none e 238 21 [some (.ref 633), some (.int a), some (.int b), some (.int h), none, none] [.int (rI N3 635 (3 + b)), .ref 633] N3 v M' 0 0 := H
  rw [show rI N3 635 (3 + b) = rI M 635 (3 + b) from by rw [eN3]; exact rN_wF] at H
  obtain ⟨N6, eN6⟩ : ∃ N, N = (wF N3 633 35 (rI M 635 (3 + b))) := ⟨_, rfl⟩
  have hN6 : SQ N6 := by rw [eN6]; exact hN3.kf
  have H : Ev none e 238 24 [some (.ref 633), some (.int a), some (.int b), some (.int h), none, none] [] N6 v M' 0 0 := by rw [eN6]; exact Ev.pfi rfl rfl rfl hN3.1 qa_633 qi_61_35 H
  have H : Ev none e 238 28 [some (.ref 633), some (.int a), some (.int b), some (.int h), none, none] [.int (1 + h), .ref 633] N6 v M' 0 0 := Ev.back 4 (fun n => rfl) H
  obtain ⟨N8, eN8⟩ : ∃ N, N = (wF N6 633 36 (1 + h)) := ⟨_, rfl⟩
  have hN8 : SQ N8 := by rw [eN8]; exact hN6.kf
  have H : Ev none e 238 31 [some (.ref 633), some (.int a), some (.int b), some (.int h), none, none] [] N8 v M' 0 0 := by rw [eN8]; exact Ev.pfi rfl rfl rfl hN6.1 qa_633 qi_61_36 H
  have H : Ev none e 238 33 [some (.ref 633), some (.int a), some (.int b), some (.int h), none, none] [.int (-1), .ref 633] N8 v M' 0 0 := Ev.back 2 (fun n => rfl) H
  obtain ⟨N10, eN10⟩ : ∃ N, N = (wF N8 633 37 (-1)) := ⟨_, rfl⟩
  have hN10 : SQ N10 := by rw [eN10]; exact hN8.kf
  have H : Ev none e 238 36 [some (.ref 633), some (.int a), some (.int b), some (.int h), none, none] [] N10 v M' 0 0 := by rw [eN10]; exact Ev.pfi rfl rfl rfl hN8.1 qa_633 qi_61_37 H
  have H : Ev none e 238 38 [some (.ref 633), some (.int a), some (.int b), some (.int h), none, none] [.int (-1), .ref 633] N10 v M' 0 0 := Ev.back 2 (fun n => rfl) H
  obtain ⟨N12, eN12⟩ : ∃ N, N = (wF N10 633 38 (-1)) := ⟨_, rfl⟩
  have hN12 : SQ N12 := by rw [eN12]; exact hN10.kf
  have H : Ev none e 238 41 [some (.ref 633), some (.int a), some (.int b), some (.int h), none, none] [] N12 v M' 0 0 := by rw [eN12]; exact Ev.pfi rfl rfl rfl hN10.1 qa_633 qi_61_38 H
  have H : Ev none e 238 43 [some (.ref 633), some (.int a), some (.int b), some (.int h), none, none] [.int 1, .ref 633] N12 v M' 0 0 := Ev.back 2 (fun n => rfl) H
  obtain ⟨N14, eN14⟩ : ∃ N, N = (wF N12 633 39 1) := ⟨_, rfl⟩
  have hN14 : SQ N14 := by rw [eN14]; exact hN12.kf
  have H : Ev none e 238 46 [some (.ref 633), some (.int a), some (.int b), some (.int h), none, none] [] N14 v M' 0 0 := by rw [eN14]; exact Ev.pfi rfl rfl rfl hN12.1 qa_633 qi_61_39 H
  have H : Ev none e 238 48 [some (.ref 633), some (.int a), some (.int b), some (.int h), none, none] [.int 1, .ref 633] N14 v M' 0 0 := Ev.back 2 (fun n => rfl) H
  obtain ⟨N16, eN16⟩ : ∃ N, N = (wF N14 633 60 1) := ⟨_, rfl⟩
  have hN16 : SQ N16 := by rw [eN16]; exact hN14.kf
  have H : Ev none e 238 51 [some (.ref 633), some (.int a), some (.int b), some (.int h), none, none] [] N16 v M' 0 0 := by rw [eN16]; exact Ev.pfi rfl rfl rfl hN14.1 qa_633 qi_61_60 H
  have H : Ev none e 238 52 [some (.ref 633), some (.int a), some (.int b), some (.int h), none, none] [.ref 633] N16 v M' 0 0 := Ev.back 1 (fun n => rfl) H
  have H : Ev none e 238 55 [some (.ref 633), some (.int a), some (.int b), some (.int h), none, none] [.ref 657] N16 v M' 0 0 := Ev.back 1 (gs_3 rfl rfl (gf_u hN16.1 qa_633 qr_61_54 qu_85 rfl)) H
  have H : Ev none e 238 57 [some (.ref 633), some (.int a), some (.int b), some (.int h), none, none] [.ref 633, .int 0, .ref 657] N16 v M' 0 0 := Ev.back 2 (fun n => rfl) H
  have H : Ev none e 238 60 [some (.ref 633), some (.int a), some (.int b), some (.int h), none, none] [.int (zI N16 633 34), .int 0, .ref 657] N16 v M' 0 0 := Ev.back 1 (gs_3 rfl rfl (gf_i hN16.1 qa_633 qi_61_34 rfl)) H
  rw [((((((show zI N16 633 34 = zI N14 633 34 from by rw [eN16]; exact fI_wF_ne (fun q => absurd q.2 (by decide))).trans (show zI N14 633 34 = zI N12 633 34 from by rw [eN14]; exact fI_wF_ne (fun q => absurd q.2 (by decide)))).trans (show zI N12 633 34 = zI N10 633 34 from by rw [eN12]; exact fI_wF_ne (fun q => absurd q.2 (by decide)))).trans (show zI N10 633 34 = zI N8 633 34 from by rw [eN10]; exact fI_wF_ne (fun q => absurd q.2 (by decide)))).trans (show zI N8 633 34 = zI N6 633 34 from by rw [eN8]; exact fI_wF_ne (fun q => absurd q.2 (by decide)))).trans (show zI N6 633 34 = zI N3 633 34 from by rw [eN6]; exact fI_wF_ne (fun q => absurd q.2 (by decide)))).trans (show zI N3 633 34 = rI M 635 (3 + a) from by rw [eN3]; exact fI_wF_eq hS.1 qa_633 qi_61_34)] at H
  obtain ⟨b17, H⟩ := Ev.ias rfl rfl hN16.1 qa_657 qw_85 H
  obtain ⟨N18, eN18⟩ : ∃ N, N = (wI N16 657 ((0 : Int32).toNatClampNeg) (rI M 635 (3 + a))) := ⟨_, rfl⟩
  have hN18 : SQ N18 := by rw [eN18]; exact hN16.ki
  have H : Ev none e 238 61 [some (.ref 633), some (.int a), some (.int b), some (.int h), none, none] [] N18 v M' 0 0 := by rw [eN18]; exact H
  have H : Ev none e 238 64 [some (.ref 633), some (.int a), some (.int b), some (.int h), some (.int 0), none] [] N18 v M' 0 0 := Ev.back 2 (fun n => rfl) H
  have HF := H
  subst eN3 eN6 eN8 eN10 eN12 eN14 eN16 eN18
  exact ⟨b1, b4, b17, HF⟩
theorem rwk_64 {e : Nat} {M M' : Mem} {v : Option Value} {a b h n : Int32} {c5 : Option Value} (hS : SQ M) (H : Ev none e 238 64 [some (.ref 633), some (.int a), some (.int b), some (.int h), some (.int n), c5] [] M v M' 0 0) : (200 ≤ n ∧ v = some (.int (-1)) ∧ M' = M) ∨ (¬ (200 ≤ n) ∧ (∃ e1 v1 M1, e = e1 + 1 ∧ Ev none e1 202 0 [some (.ref 633), none, none, none, none, none] [] M v1 M1 0 0 ∧ Ev none e 238 76 [some (.ref 633), some (.int a), some (.int b), some (.int h), some (.int n), c5] (v1.toList ++ []) M1 v M' 0 0)) := by
  have H : Ev none e 238 (if 200 ≤ n then 160 else 72) [some (.ref 633), some (.int a), some (.int b), some (.int h), some (.int n), c5] [] M v M' 0 0 := Ev.back 3 (fun n => rfl) H
  by_cases h1 : 200 ≤ n
  · rw [if_pos h1] at H
    have H : Ev none e 238 161 [some (.ref 633), some (.int a), some (.int b), some (.int h), some (.int n), c5] [.int (-1)] M v M' 0 0 := Ev.back 1 (fun n => rfl) H
    obtain ⟨z1, z2⟩ := Ev.retz rfl rfl H
    exact Or.inl ⟨h1, z1, z2⟩
  · rw [if_neg h1] at H
    have H : Ev none e 238 73 [some (.ref 633), some (.int a), some (.int b), some (.int h), some (.int n), c5] [.ref 633] M v M' 0 0 := Ev.back 1 (fun n => rfl) H
    obtain ⟨e1, rfl⟩ := Ev.dpos rfl rfl H
    obtain ⟨vK2, MK2, K2, H⟩ := Ev.callb (fun n_ => gs_7 rfl rfl (show gCal (.invokevirtual 414) 11 (.ref 633 :: []) M = some (.inr (202, [some (.ref 633), none, none, none, none, none], [])) from by show @cond (Option ((List Value × Mem) ⊕ (Nat × Lo × List Value))) (true && gRecv M (.ref 633) 11 && gRoom [] && true) (some (.inr (202, [some (.ref 633), none, none, none, none, none], []))) none = _; rw [recv_s hS.1 qa_633 qo_61]; rfl)) H
    have K2 : Ev none e1 202 0 [some (.ref 633), none, none, none, none, none] [] M vK2 MK2 0 0 := K2
    have HF := H
    exact Or.inr (⟨h1, ⟨e1, vK2, MK2, rfl, K2, HF⟩⟩)
theorem rwk_76 {e : Nat} {M M' : Mem} {v : Option Value} {a b h n d : Int32} {c5 : Option Value} (hS : SQ M) (H : Ev none e 238 76 [some (.ref 633), some (.int a), some (.int b), some (.int h), some (.int n), c5] [.int d] M v M' 0 0) : (0 ≤ d ∧ (∃ e1 v1 M1, e = e1 + 1 ∧ Ev none e1 194 0 [some (.ref 633), some (.int (zI M 633 34)), some (.int d), none, none] [] (wF (wF M 633 37 d) 633 38 (zI M 633 34)) v1 M1 0 0 ∧ Ev none e 238 110 [some (.ref 633), some (.int a), some (.int b), some (.int h), some (.int n), some (.int d)] (v1.toList ++ [.ref 633]) M1 v M' 0 0)) ∨ (¬ (0 ≤ d) ∧ v = some (.int (-1)) ∧ M' = M) := by
  have H : Ev none e 238 (if 0 ≤ d then 85 else 83) [some (.ref 633), some (.int a), some (.int b), some (.int h), some (.int n), some (.int d)] [] M v M' 0 0 := Ev.back 3 (fun n => rfl) H
  by_cases h1 : 0 ≤ d
  · rw [if_pos h1] at H
    have H : Ev none e 238 88 [some (.ref 633), some (.int a), some (.int b), some (.int h), some (.int n), some (.int d)] [.int d, .ref 633] M v M' 0 0 := Ev.back 2 (fun n => rfl) H
    obtain ⟨N3, eN3⟩ : ∃ N, N = (wF M 633 37 d) := ⟨_, rfl⟩
    have hN3 : SQ N3 := by rw [eN3]; exact hS.kf
    have H : Ev none e 238 91 [some (.ref 633), some (.int a), some (.int b), some (.int h), some (.int n), some (.int d)] [] N3 v M' 0 0 := by rw [eN3]; exact Ev.pfi rfl rfl rfl hS.1 qa_633 qi_61_37 H
    have H : Ev none e 238 93 [some (.ref 633), some (.int a), some (.int b), some (.int h), some (.int n), some (.int d)] [.ref 633, .ref 633] N3 v M' 0 0 := Ev.back 2 (fun n => rfl) H
    have H : Ev none e 238 96 [some (.ref 633), some (.int a), some (.int b), some (.int h), some (.int n), some (.int d)] [.int (zI N3 633 34), .ref 633] N3 v M' 0 0 := Ev.back 1 (gs_3 rfl rfl (gf_i hN3.1 qa_633 qi_61_34 rfl)) H
    rw [show zI N3 633 34 = zI M 633 34 from by rw [eN3]; exact fI_wF_ne (fun q => absurd q.2 (by decide))] at H
    obtain ⟨N5, eN5⟩ : ∃ N, N = (wF N3 633 38 (zI M 633 34)) := ⟨_, rfl⟩
    have hN5 : SQ N5 := by rw [eN5]; exact hN3.kf
    have H : Ev none e 238 99 [some (.ref 633), some (.int a), some (.int b), some (.int h), some (.int n), some (.int d)] [] N5 v M' 0 0 := by rw [eN5]; exact Ev.pfi rfl rfl rfl hN3.1 qa_633 qi_61_38 H
    have H : Ev none e 238 102 [some (.ref 633), some (.int a), some (.int b), some (.int h), some (.int n), some (.int d)] [.ref 633, .ref 633, .ref 633] N5 v M' 0 0 := Ev.back 3 (fun n => rfl) H
    have H : Ev none e 238 105 [some (.ref 633), some (.int a), some (.int b), some (.int h), some (.int n), some (.int d)] [.int (zI N5 633 34), .ref 633, .ref 633] N5 v M' 0 0 := Ev.back 1 (gs_3 rfl rfl (gf_i hN5.1 qa_633 qi_61_34 rfl)) H
    rw [(show zI N5 633 34 = zI N3 633 34 from by rw [eN5]; exact fI_wF_ne (fun q => absurd q.2 (by decide))).trans (show zI N3 633 34 = zI M 633 34 from by rw [eN3]; exact fI_wF_ne (fun q => absurd q.2 (by decide)))] at H
    have H : Ev none e 238 107 [some (.ref 633), some (.int a), some (.int b), some (.int h), some (.int n), some (.int d)] [.int d, .int (zI M 633 34), .ref 633, .ref 633] N5 v M' 0 0 := Ev.back 1 (fun n => rfl) H
    obtain ⟨e1, rfl⟩ := Ev.dpos rfl rfl H
    obtain ⟨vK6, MK6, K6, H⟩ := Ev.callb (fun n_ => gs_7 rfl rfl (show gCal (.invokevirtual 380) 11 (.int d :: .int (zI M 633 34) :: .ref 633 :: [.ref 633]) N5 = some (.inr (194, [some (.ref 633), some (.int (zI M 633 34)), some (.int d), none, none], [.ref 633])) from by show @cond (Option ((List Value × Mem) ⊕ (Nat × Lo × List Value))) (true && gRecv N5 (.ref 633) 11 && gRoom [.ref 633] && true) (some (.inr (194, [some (.ref 633), some (.int (zI M 633 34)), some (.int d), none, none], [.ref 633]))) none = _; rw [recv_s hN5.1 qa_633 qo_61]; rfl)) H
    have K6 : Ev none e1 194 0 [some (.ref 633), some (.int (zI M 633 34)), some (.int d), none, none] [] N5 vK6 MK6 0 0 := K6
    have HF := H
    subst eN3 eN5
    exact Or.inl ⟨h1, ⟨e1, vK6, MK6, rfl, K6, HF⟩⟩
  · rw [if_neg h1] at H
    have H : Ev none e 238 84 [some (.ref 633), some (.int a), some (.int b), some (.int h), some (.int n), some (.int d)] [.int (-1)] M v M' 0 0 := Ev.back 1 (fun n => rfl) H
    obtain ⟨z1, z2⟩ := Ev.retz rfl rfl H
    exact Or.inr (⟨h1, z1, z2⟩)
theorem rwk_110 {e : Nat} {M M' : Mem} {v : Option Value} {a b h n d y : Int32} (hS : SQ M) (H : Ev none e 238 110 [some (.ref 633), some (.int a), some (.int b), some (.int h), some (.int n), some (.int d)] [.int y, .ref 633] M v M' 0 0) : (y = (zI M 633 35) ∧ (0 ≤ (zI M 633 60).toInt ∧ (zI M 633 60).toInt < 201) ∧ v = some (.int (((zI M 633 60) + 1) - 1)) ∧ M' = (wF (wI (wF M 633 34 y) 657 ((zI M 633 60).toNatClampNeg) y) 633 60 ((zI M 633 60) + 1))) ∨ (¬ (y = (zI M 633 35)) ∧ (0 ≤ (zI M 633 60).toInt ∧ (zI M 633 60).toInt < 201) ∧ Ev none e 238 64 [some (.ref 633), some (.int a), some (.int b), some (.int h), some (.int (n + 1)), some (.int d)] [] (wF (wI (wF M 633 34 y) 657 ((zI M 633 60).toNatClampNeg) y) 633 60 ((zI M 633 60) + 1)) v M' 0 0) := by
  obtain ⟨N2, eN2⟩ : ∃ N, N = (wF M 633 34 y) := ⟨_, rfl⟩
  have hN2 : SQ N2 := by rw [eN2]; exact hS.kf
  have H : Ev none e 238 113 [some (.ref 633), some (.int a), some (.int b), some (.int h), some (.int n), some (.int d)] [] N2 v M' 0 0 := by rw [eN2]; exact Ev.pfi rfl rfl rfl hS.1 qa_633 qi_61_34 H
  have H : Ev none e 238 114 [some (.ref 633), some (.int a), some (.int b), some (.int h), some (.int n), some (.int d)] [.ref 633] N2 v M' 0 0 := Ev.back 1 (fun n => rfl) H
  have H : Ev none e 238 117 [some (.ref 633), some (.int a), some (.int b), some (.int h), some (.int n), some (.int d)] [.ref 657] N2 v M' 0 0 := Ev.back 1 (gs_3 rfl rfl (gf_u hN2.1 qa_633 qr_61_54 qu_85 rfl)) H
  have H : Ev none e 238 118 [some (.ref 633), some (.int a), some (.int b), some (.int h), some (.int n), some (.int d)] [.ref 633, .ref 657] N2 v M' 0 0 := Ev.back 1 (fun n => rfl) H
  have H : Ev none e 238 121 [some (.ref 633), some (.int a), some (.int b), some (.int h), some (.int n), some (.int d)] [.int (zI N2 633 60), .ref 657] N2 v M' 0 0 := Ev.back 1 (gs_3 rfl rfl (gf_i hN2.1 qa_633 qi_61_60 rfl)) H
  rw [show zI N2 633 60 = zI M 633 60 from by rw [eN2]; exact fI_wF_ne (fun q => absurd q.2 (by decide))] at H
  have H : Ev none e 238 122 [some (.ref 633), some (.int a), some (.int b), some (.int h), some (.int n), some (.int d)] [.ref 633, .int (zI M 633 60), .ref 657] N2 v M' 0 0 := Ev.back 1 (fun n => rfl) H
  have H : Ev none e 238 125 [some (.ref 633), some (.int a), some (.int b), some (.int h), some (.int n), some (.int d)] [.int (zI N2 633 34), .int (zI M 633 60), .ref 657] N2 v M' 0 0 := Ev.back 1 (gs_3 rfl rfl (gf_i hN2.1 qa_633 qi_61_34 rfl)) H
  rw [show zI N2 633 34 = y from by rw [eN2]; exact fI_wF_eq hS.1 qa_633 qi_61_34] at H
  obtain ⟨b3, H⟩ := Ev.ias rfl rfl hN2.1 qa_657 qw_85 H
  obtain ⟨N4, eN4⟩ : ∃ N, N = (wI N2 657 ((zI M 633 60).toNatClampNeg) y) := ⟨_, rfl⟩
  have hN4 : SQ N4 := by rw [eN4]; exact hN2.ki
  have H : Ev none e 238 126 [some (.ref 633), some (.int a), some (.int b), some (.int h), some (.int n), some (.int d)] [] N4 v M' 0 0 := by rw [eN4]; exact H
  have H : Ev none e 238 128 [some (.ref 633), some (.int a), some (.int b), some (.int h), some (.int n), some (.int d)] [.ref 633, .ref 633] N4 v M' 0 0 := Ev.back 2 (fun n => rfl) H
  have H : Ev none e 238 131 [some (.ref 633), some (.int a), some (.int b), some (.int h), some (.int n), some (.int d)] [.int (zI N4 633 60), .ref 633] N4 v M' 0 0 := Ev.back 1 (gs_3 rfl rfl (gf_i hN4.1 qa_633 qi_61_60 rfl)) H
  rw [(show zI N4 633 60 = zI N2 633 60 from by rw [eN4]; exact fI_wI).trans (show zI N2 633 60 = zI M 633 60 from by rw [eN2]; exact fI_wF_ne (fun q => absurd q.2 (by decide)))] at H
  have H : Ev none e 238 133 [some (.ref 633), some (.int a), some (.int b), some (.int h), some (.int n), some (.int d)] [.int ((zI M 633 60) + 1), .ref 633] N4 v M' 0 0 := Ev.back 2 (fun n => rfl) H
  obtain ⟨N6, eN6⟩ : ∃ N, N = (wF N4 633 60 ((zI M 633 60) + 1)) := ⟨_, rfl⟩
  have hN6 : SQ N6 := by rw [eN6]; exact hN4.kf
  have H : Ev none e 238 136 [some (.ref 633), some (.int a), some (.int b), some (.int h), some (.int n), some (.int d)] [] N6 v M' 0 0 := by rw [eN6]; exact Ev.pfi rfl rfl rfl hN4.1 qa_633 qi_61_60 H
  have H : Ev none e 238 137 [some (.ref 633), some (.int a), some (.int b), some (.int h), some (.int n), some (.int d)] [.ref 633] N6 v M' 0 0 := Ev.back 1 (fun n => rfl) H
  have H : Ev none e 238 140 [some (.ref 633), some (.int a), some (.int b), some (.int h), some (.int n), some (.int d)] [.int (zI N6 633 34)] N6 v M' 0 0 := Ev.back 1 (gs_3 rfl rfl (gf_i hN6.1 qa_633 qi_61_34 rfl)) H
  rw [((show zI N6 633 34 = zI N4 633 34 from by rw [eN6]; exact fI_wF_ne (fun q => absurd q.2 (by decide))).trans (show zI N4 633 34 = zI N2 633 34 from by rw [eN4]; exact fI_wI)).trans (show zI N2 633 34 = y from by rw [eN2]; exact fI_wF_eq hS.1 qa_633 qi_61_34)] at H
  have H : Ev none e 238 141 [some (.ref 633), some (.int a), some (.int b), some (.int h), some (.int n), some (.int d)] [.ref 633, .int y] N6 v M' 0 0 := Ev.back 1 (fun n => rfl) H
  have H : Ev none e 238 144 [some (.ref 633), some (.int a), some (.int b), some (.int h), some (.int n), some (.int d)] [.int (zI N6 633 35), .int y] N6 v M' 0 0 := Ev.back 1 (gs_3 rfl rfl (gf_i hN6.1 qa_633 qi_61_35 rfl)) H
  rw [((show zI N6 633 35 = zI N4 633 35 from by rw [eN6]; exact fI_wF_ne (fun q => absurd q.2 (by decide))).trans (show zI N4 633 35 = zI N2 633 35 from by rw [eN4]; exact fI_wI)).trans (show zI N2 633 35 = zI M 633 35 from by rw [eN2]; exact fI_wF_ne (fun q => absurd q.2 (by decide)))] at H
  have H : Ev none e 238 (if y = (zI M 633 35) then 147 else 154) [some (.ref 633), some (.int a), some (.int b), some (.int h), some (.int n), some (.int d)] [] N6 v M' 0 0 := Ev.back 1 (fun n => rfl) H
  by_cases h7 : y = (zI M 633 35)
  · rw [if_pos h7] at H
    have H : Ev none e 238 148 [some (.ref 633), some (.int a), some (.int b), some (.int h), some (.int n), some (.int d)] [.ref 633] N6 v M' 0 0 := Ev.back 1 (fun n => rfl) H
    have H : Ev none e 238 151 [some (.ref 633), some (.int a), some (.int b), some (.int h), some (.int n), some (.int d)] [.int (zI N6 633 60)] N6 v M' 0 0 := Ev.back 1 (gs_3 rfl rfl (gf_i hN6.1 qa_633 qi_61_60 rfl)) H
    rw [show zI N6 633 60 = (zI M 633 60) + 1 from by rw [eN6]; exact fI_wF_eq hN4.1 qa_633 qi_61_60] at H
    have H : Ev none e 238 153 [some (.ref 633), some (.int a), some (.int b), some (.int h), some (.int n), some (.int d)] [.int (((zI M 633 60) + 1) - 1)] N6 v M' 0 0 := Ev.back 2 (fun n => rfl) H
    obtain ⟨z1, z2⟩ := Ev.retz rfl rfl H
    subst eN2 eN4 eN6
    exact Or.inl ⟨h7, b3, z1, z2⟩
  · rw [if_neg h7] at H
    have H : Ev none e 238 64 [some (.ref 633), some (.int a), some (.int b), some (.int h), some (.int (n + 1)), some (.int d)] [] N6 v M' 0 0 := Ev.back 2 (fun n => rfl) H
    have HF := H
    subst eN2 eN4 eN6
    exact Or.inr (⟨h7, b3, HF⟩)
theorem rwy_0 {e : Nat} {M M' : Mem} {v : Option Value} {a b h : Int32} (hS : SQ M) (H : Ev none e 240 0 [some (.ref 633), some (.int a), some (.int b), some (.int h), none, none] [] M v M' 0 0) : ((G_239 (wF M 633 0 0) a b h) = 0 ∧ v = some (.int (-2)) ∧ M' = (wF M 633 0 0)) ∨ (¬ ((G_239 (wF M 633 0 0) a b h) = 0) ∧ (∃ e1 v1 M1, e = e1 + 1 ∧ Ev none e1 238 0 [some (.ref 633), some (.int a), some (.int b), some (.int h), none, none] [] (wF M 633 0 0) v1 M1 0 0 ∧ Ev none e 240 25 [some (.ref 633), some (.int a), some (.int b), some (.int h), none, none] (v1.toList ++ []) M1 v M' 0 0)) := by
  have H : Ev none e 240 2 [some (.ref 633), some (.int a), some (.int b), some (.int h), none, none] [.int 0, .ref 633] M v M' 0 0 := Ev.back 2 (fun n => rfl) H
  obtain ⟨N2, eN2⟩ : ∃ N, N = (wF M 633 0 0) := ⟨_, rfl⟩
  have hN2 : SQ N2 := by rw [eN2]; exact hS.kf
  have H : Ev none e 240 5 [some (.ref 633), some (.int a), some (.int b), some (.int h), none, none] [] N2 v M' 0 0 := by rw [eN2]; exact Ev.pfi rfl rfl rfl hS.1 qa_633 qi_61_0 H
  have H : Ev none e 240 9 [some (.ref 633), some (.int a), some (.int b), some (.int h), none, none] [.int h, .int b, .int a, .ref 633] N2 v M' 0 0 := Ev.back 4 (fun n => rfl) H
  obtain ⟨e1, rfl⟩ := Ev.dpos rfl rfl H
  obtain ⟨vK3, MK3, K3, H⟩ := Ev.callb (fun n_ => gs_7 rfl rfl (show gCal (.invokevirtual 497) 11 (.int h :: .int b :: .int a :: .ref 633 :: []) N2 = some (.inr (239, [some (.ref 633), some (.int a), some (.int b), some (.int h)], [])) from by show @cond (Option ((List Value × Mem) ⊕ (Nat × Lo × List Value))) (true && gRecv N2 (.ref 633) 11 && gRoom [] && true) (some (.inr (239, [some (.ref 633), some (.int a), some (.int b), some (.int h)], []))) none = _; rw [recv_s hN2.1 qa_633 qo_61]; rfl)) H
  obtain ⟨pK3, qK3⟩ := g_239 hN2 K3
  rw [pK3, qK3] at H
  have H : Ev none (e1 + 1) 240 12 [some (.ref 633), some (.int a), some (.int b), some (.int h), none, none] [.int (G_239 N2 a b h)] N2 v M' 0 0 := H
  have H : Ev none (e1 + 1) 240 (if (G_239 N2 a b h) = 0 then 15 else 18) [some (.ref 633), some (.int a), some (.int b), some (.int h), none, none] [] N2 v M' 0 0 := Ev.back 1 (fun n => rfl) H
  by_cases h4 : (G_239 N2 a b h) = 0
  · rw [if_pos h4] at H
    have H : Ev none (e1 + 1) 240 17 [some (.ref 633), some (.int a), some (.int b), some (.int h), none, none] [.int (-2)] N2 v M' 0 0 := Ev.back 1 (fun n => rfl) H
    obtain ⟨z1, z2⟩ := Ev.retz rfl rfl H
    subst eN2
    exact Or.inl ⟨h4, z1, z2⟩
  · rw [if_neg h4] at H
    have H : Ev none (e1 + 1) 240 22 [some (.ref 633), some (.int a), some (.int b), some (.int h), none, none] [.int h, .int b, .int a, .ref 633] N2 v M' 0 0 := Ev.back 4 (fun n => rfl) H
    obtain ⟨vK5, MK5, K5, H⟩ := Ev.callb (fun n_ => gs_7 rfl rfl (show gCal (.invokevirtual 500) 11 (.int h :: .int b :: .int a :: .ref 633 :: []) N2 = some (.inr (238, [some (.ref 633), some (.int a), some (.int b), some (.int h), none, none], [])) from by show @cond (Option ((List Value × Mem) ⊕ (Nat × Lo × List Value))) (true && gRecv N2 (.ref 633) 11 && gRoom [] && true) (some (.inr (238, [some (.ref 633), some (.int a), some (.int b), some (.int h), none, none], []))) none = _; rw [recv_s hN2.1 qa_633 qo_61]; rfl)) H
    have K5 : Ev none e1 238 0 [some (.ref 633), some (.int a), some (.int b), some (.int h), none, none] [] N2 vK5 MK5 0 0 := K5
    have HF := H
    subst eN2
    exact Or.inr (⟨h4, ⟨e1, vK5, MK5, rfl, K5, HF⟩⟩)
theorem rwy_25 {e : Nat} {M M' : Mem} {v : Option Value} {a b h r : Int32} (hS : SQ M) (H : Ev none e 240 25 [some (.ref 633), some (.int a), some (.int b), some (.int h), none, none] [.int r] M v M' 0 0) : Ev none e 240 38 [some (.ref 633), some (.int a), some (.int b), some (.int h), some (.int r), some (.int 0)] [] (wF M 633 61 (zI M 633 60)) v M' 0 0 := by
  have H : Ev none e 240 29 [some (.ref 633), some (.int a), some (.int b), some (.int h), some (.int r), none] [.ref 633, .ref 633] M v M' 0 0 := Ev.back 3 (fun n => rfl) H
  have H : Ev none e 240 32 [some (.ref 633), some (.int a), some (.int b), some (.int h), some (.int r), none] [.int (zI M 633 60), .ref 633] M v M' 0 0 := Ev.back 1 (gs_3 rfl rfl (gf_i hS.1 qa_633 qi_61_60 rfl)) H
  obtain ⟨N2, eN2⟩ : ∃ N, N = (wF M 633 61 (zI M 633 60)) := ⟨_, rfl⟩
  have hN2 : SQ N2 := by rw [eN2]; exact hS.kf
  have H : Ev none e 240 35 [some (.ref 633), some (.int a), some (.int b), some (.int h), some (.int r), none] [] N2 v M' 0 0 := by rw [eN2]; exact Ev.pfi rfl rfl rfl hS.1 qa_633 qi_61_61 H
  have H : Ev none e 240 38 [some (.ref 633), some (.int a), some (.int b), some (.int h), some (.int r), some (.int 0)] [] N2 v M' 0 0 := Ev.back 2 (fun n => rfl) H
  have HF := H
  subst eN2
  exact HF
theorem rwy_38 {e : Nat} {M M' : Mem} {v : Option Value} {a b h r i : Int32} (hS : SQ M) (H : Ev none e 240 38 [some (.ref 633), some (.int a), some (.int b), some (.int h), some (.int r), some (.int i)] [] M v M' 0 0) : ((zI M 633 60) ≤ i ∧ v = some (.int r) ∧ M' = M) ∨ (¬ ((zI M 633 60) ≤ i) ∧ (0 ≤ i.toInt ∧ i.toInt < 201) ∧ (0 ≤ i.toInt ∧ i.toInt < 201) ∧ Ev none e 240 38 [some (.ref 633), some (.int a), some (.int b), some (.int h), some (.int r), some (.int (i + 1))] [] (wI M 658 i.toNatClampNeg (rI M 657 i)) v M' 0 0) := by
  have H : Ev none e 240 41 [some (.ref 633), some (.int a), some (.int b), some (.int h), some (.int r), some (.int i)] [.ref 633, .int i] M v M' 0 0 := Ev.back 2 (fun n => rfl) H
  have H : Ev none e 240 44 [some (.ref 633), some (.int a), some (.int b), some (.int h), some (.int r), some (.int i)] [.int (zI M 633 60), .int i] M v M' 0 0 := Ev.back 1 (gs_3 rfl rfl (gf_i hS.1 qa_633 qi_61_60 rfl)) H
  have H : Ev none e 240 (if (zI M 633 60) ≤ i then 67 else 47) [some (.ref 633), some (.int a), some (.int b), some (.int h), some (.int r), some (.int i)] [] M v M' 0 0 := Ev.back 1 (fun n => rfl) H
  by_cases h1 : (zI M 633 60) ≤ i
  · rw [if_pos h1] at H
    have H : Ev none e 240 69 [some (.ref 633), some (.int a), some (.int b), some (.int h), some (.int r), some (.int i)] [.int r] M v M' 0 0 := Ev.back 1 (fun n => rfl) H
    obtain ⟨z1, z2⟩ := Ev.retz rfl rfl H
    exact Or.inl ⟨h1, z1, z2⟩
  · rw [if_neg h1] at H
    have H : Ev none e 240 48 [some (.ref 633), some (.int a), some (.int b), some (.int h), some (.int r), some (.int i)] [.ref 633] M v M' 0 0 := Ev.back 1 (fun n => rfl) H
    have H : Ev none e 240 51 [some (.ref 633), some (.int a), some (.int b), some (.int h), some (.int r), some (.int i)] [.ref 658] M v M' 0 0 := Ev.back 1 (gs_3 rfl rfl (gf_u hS.1 qa_633 qr_61_55 qu_86 rfl)) H
    have H : Ev none e 240 54 [some (.ref 633), some (.int a), some (.int b), some (.int h), some (.int r), some (.int i)] [.ref 633, .int i, .ref 658] M v M' 0 0 := Ev.back 2 (fun n => rfl) H
    have H : Ev none e 240 57 [some (.ref 633), some (.int a), some (.int b), some (.int h), some (.int r), some (.int i)] [.ref 657, .int i, .ref 658] M v M' 0 0 := Ev.back 1 (gs_3 rfl rfl (gf_u hS.1 qa_633 qr_61_54 qu_85 rfl)) H
    have H : Ev none e 240 59 [some (.ref 633), some (.int a), some (.int b), some (.int h), some (.int r), some (.int i)] [.int i, .ref 657, .int i, .ref 658] M v M' 0 0 := Ev.back 1 (fun n => rfl) H
    obtain ⟨b2, H⟩ := Ev.ial rfl rfl hS.1 qa_657 qw_85 H
    have H : Ev none e 240 60 [some (.ref 633), some (.int a), some (.int b), some (.int h), some (.int r), some (.int i)] [.int (rI M 657 i), .int i, .ref 658] M v M' 0 0 := H
    obtain ⟨b3, H⟩ := Ev.ias rfl rfl hS.1 qa_658 qw_86 H
    obtain ⟨N4, eN4⟩ : ∃ N, N = (wI M 658 i.toNatClampNeg (rI M 657 i)) := ⟨_, rfl⟩
    have hN4 : SQ N4 := by rw [eN4]; exact hS.ki
    have H : Ev none e 240 61 [some (.ref 633), some (.int a), some (.int b), some (.int h), some (.int r), some (.int i)] [] N4 v M' 0 0 := by rw [eN4]; exact H
    have H : Ev none e 240 38 [some (.ref 633), some (.int a), some (.int b), some (.int h), some (.int r), some (.int (i + 1))] [] N4 v M' 0 0 := Ev.back 2 (fun n => rfl) H
    have HF := H
    subst eN4
    exact Or.inr (⟨h1, b2, b3, HF⟩)
