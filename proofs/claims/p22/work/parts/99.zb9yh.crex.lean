/-! THE REFERENCE: pieces of text, law, habit (made by gre.py) -/
theorem teq_0 {e : Nat} {M M' : Mem} {v : Option Value} {t l : Int32} {c3 c4 c5 : Option Value} (hS : SQ M) (H : Ev none e 181 0 [some (.ref 633), some (.int t), some (.int l), c3, c4, c5] [] M v M' 0 0) : (0 ≤ (7 : Int32).toInt ∧ (7 : Int32).toInt < 8) ∧ (∃ e1 v1 M1, e = e1 + 1 ∧ Ev none e1 162 0 [some (.ref 633), none, none, none] [] (wF (wF (wI (wF M 633 26 0) 639 ((7 : Int32).toNatClampNeg) 0) 633 19 0) 633 21 0) v1 M1 0 0 ∧ Ev none e 181 27 [some (.ref 633), some (.int t), some (.int l), c3, c4, c5] (v1.toList ++ []) M1 v M' 0 0) := by
  have H : Ev none e 181 2 [some (.ref 633), some (.int t), some (.int l), c3, c4, c5] [.int 0, .ref 633] M v M' 0 0 := Ev.back 2 (fun n => rfl) H
  obtain ⟨N2, eN2⟩ : ∃ N, N = (wF M 633 26 0) := ⟨_, rfl⟩
  have hN2 : SQ N2 := by rw [eN2]; exact hS.kf
  have H : Ev none e 181 5 [some (.ref 633), some (.int t), some (.int l), c3, c4, c5] [] N2 v M' 0 0 := by rw [eN2]; exact Ev.pfi rfl rfl rfl hS.1 qa_633 qi_61_26 H
  have H : Ev none e 181 6 [some (.ref 633), some (.int t), some (.int l), c3, c4, c5] [.ref 633] N2 v M' 0 0 := Ev.back 1 (fun n => rfl) H
  have H : Ev none e 181 9 [some (.ref 633), some (.int t), some (.int l), c3, c4, c5] [.ref 639] N2 v M' 0 0 := Ev.back 1 (gs_3 rfl rfl (gf_u hN2.1 qa_633 qr_61_9 qu_67 rfl)) H
  have H : Ev none e 181 12 [some (.ref 633), some (.int t), some (.int l), c3, c4, c5] [.int 0, .int 7, .ref 639] N2 v M' 0 0 := Ev.back 2 (fun n => rfl) H
  obtain ⟨b3, H⟩ := Ev.ias rfl rfl hN2.1 qa_639 qw_67 H
  obtain ⟨N4, eN4⟩ : ∃ N, N = (wI N2 639 ((7 : Int32).toNatClampNeg) 0) := ⟨_, rfl⟩
  have hN4 : SQ N4 := by rw [eN4]; exact hN2.ki
  have H : Ev none e 181 13 [some (.ref 633), some (.int t), some (.int l), c3, c4, c5] [] N4 v M' 0 0 := by rw [eN4]; exact H
  have H : Ev none e 181 15 [some (.ref 633), some (.int t), some (.int l), c3, c4, c5] [.int 0, .ref 633] N4 v M' 0 0 := Ev.back 2 (fun n => rfl) H
  obtain ⟨N6, eN6⟩ : ∃ N, N = (wF N4 633 19 0) := ⟨_, rfl⟩
  have hN6 : SQ N6 := by rw [eN6]; exact hN4.kf
  have H : Ev none e 181 18 [some (.ref 633), some (.int t), some (.int l), c3, c4, c5] [] N6 v M' 0 0 := by rw [eN6]; exact Ev.pfi rfl rfl rfl hN4.1 qa_633 qi_61_19 H
  have H : Ev none e 181 20 [some (.ref 633), some (.int t), some (.int l), c3, c4, c5] [.int 0, .ref 633] N6 v M' 0 0 := Ev.back 2 (fun n => rfl) H
  obtain ⟨N8, eN8⟩ : ∃ N, N = (wF N6 633 21 0) := ⟨_, rfl⟩
  have hN8 : SQ N8 := by rw [eN8]; exact hN6.kf
  have H : Ev none e 181 23 [some (.ref 633), some (.int t), some (.int l), c3, c4, c5] [] N8 v M' 0 0 := by rw [eN8]; exact Ev.pfi rfl rfl rfl hN6.1 qa_633 qi_61_21 H
  have H : Ev none e 181 24 [some (.ref 633), some (.int t), some (.int l), c3, c4, c5] [.ref 633] N8 v M' 0 0 := Ev.back 1 (fun n => rfl) H
  obtain ⟨e1, rfl⟩ := Ev.dpos rfl rfl H
  obtain ⟨vK9, MK9, K9, H⟩ := Ev.callb (fun n => gs_7 rfl rfl (show gCal (.invokevirtual 201) 11 (.ref 633 :: []) N8 = some (.inr (162, [some (.ref 633), none, none, none], [])) from by show @cond (Option ((List Value × Mem) ⊕ (Nat × Lo × List Value))) (true && gRecv N8 (.ref 633) 11 && gRoom [] && true) (some (.inr (162, [some (.ref 633), none, none, none], []))) none = _; rw [recv_s hN8.1 qa_633 qo_61]; rfl)) H
  have K9 : Ev none e1 162 0 [some (.ref 633), none, none, none] [] N8 vK9 MK9 0 0 := K9
  have HF := H
  subst eN2 eN4 eN6 eN8
  exact ⟨b3, ⟨e1, vK9, MK9, rfl, K9, HF⟩⟩
theorem teq_27 {e : Nat} {M M' : Mem} {v : Option Value} {t l : Int32} {c3 c4 c5 : Option Value} (hS : SQ M) (H : Ev none e 181 27 [some (.ref 633), some (.int t), some (.int l), c3, c4, c5] [] M v M' 0 0) : (∃ e1 v1 M1, e = e1 + 1 ∧ Ev none e1 169 0 [some (.ref 633), some (.int l), none, none, none] [] M v1 M1 0 0 ∧ Ev none e 181 32 [some (.ref 633), some (.int t), some (.int l), c3, c4, c5] (v1.toList ++ []) M1 v M' 0 0) := by
  have H : Ev none e 181 29 [some (.ref 633), some (.int t), some (.int l), c3, c4, c5] [.int l, .ref 633] M v M' 0 0 := Ev.back 2 (fun n => rfl) H
  obtain ⟨e1, rfl⟩ := Ev.dpos rfl rfl H
  obtain ⟨vK1, MK1, K1, H⟩ := Ev.callb (fun n => gs_7 rfl rfl (show gCal (.invokevirtual 321) 11 (.int l :: .ref 633 :: []) M = some (.inr (169, [some (.ref 633), some (.int l), none, none, none], [])) from by show @cond (Option ((List Value × Mem) ⊕ (Nat × Lo × List Value))) (true && gRecv M (.ref 633) 11 && gRoom [] && true) (some (.inr (169, [some (.ref 633), some (.int l), none, none, none], []))) none = _; rw [recv_s hS.1 qa_633 qo_61]; rfl)) H
  have K1 : Ev none e1 169 0 [some (.ref 633), some (.int l), none, none, none] [] M vK1 MK1 0 0 := K1
  have HF := H
  exact ⟨e1, vK1, MK1, rfl, K1, HF⟩
theorem teq_32 {e : Nat} {M M' : Mem} {v : Option Value} {t l y : Int32} {c3 c4 c5 : Option Value} (hS : SQ M) (H : Ev none e 181 32 [some (.ref 633), some (.int t), some (.int l), c3, c4, c5] [.int y] M v M' 0 0) : (y = 0 ∧ v = some (.int ((-1) - (zI M 633 27))) ∧ M' = M) ∨ (¬ (y = 0) ∧ (0 ≤ (7 : Int32).toInt ∧ (7 : Int32).toInt < 8) ∧ (0 ≤ t.toInt ∧ t.toInt < 8) ∧ Ev none e 181 57 [some (.ref 633), some (.int t), some (.int l), some (.int 0), c4, c5] [] (wI M 639 t.toNatClampNeg (rI M 639 7)) v M' 0 0) := by
  have H : Ev none e 181 (if y = 0 then 35 else 42) [some (.ref 633), some (.int t), some (.int l), c3, c4, c5] [] M v M' 0 0 := Ev.back 1 (fun n => rfl) H
  by_cases h1 : y = 0
  · rw [if_pos h1] at H
    have H : Ev none e 181 37 [some (.ref 633), some (.int t), some (.int l), c3, c4, c5] [.ref 633, .int (-1)] M v M' 0 0 := Ev.back 2 (fun n => rfl) H
    have H : Ev none e 181 40 [some (.ref 633), some (.int t), some (.int l), c3, c4, c5] [.int (zI M 633 27), .int (-1)] M v M' 0 0 := Ev.back 1 (gs_3 rfl rfl (gf_i hS.1 qa_633 qi_61_27 rfl)) H
    obtain ⟨m2, em2⟩ : ∃ m : Int32, m = (-1) := ⟨_, rfl⟩
    have H : Ev none e 181 40 [some (.ref 633), some (.int t), some (.int l), c3, c4, c5] [.int (zI M 633 27), .int m2] M v M' 0 0 := by rw [em2]; exact H
    have H : Ev none e 181 41 [some (.ref 633), some (.int t), some (.int l), c3, c4, c5] [.int (m2 - (zI M 633 27))] M v M' 0 0 := Ev.back 1 (fun n => rfl) H
    rw [em2] at H
    obtain ⟨z1, z2⟩ := Ev.retz rfl rfl H
    exact Or.inl ⟨h1, z1, z2⟩
  · rw [if_neg h1] at H
    have H : Ev none e 181 43 [some (.ref 633), some (.int t), some (.int l), c3, c4, c5] [.ref 633] M v M' 0 0 := Ev.back 1 (fun n => rfl) H
    have H : Ev none e 181 46 [some (.ref 633), some (.int t), some (.int l), c3, c4, c5] [.ref 639] M v M' 0 0 := Ev.back 1 (gs_3 rfl rfl (gf_u hS.1 qa_633 qr_61_9 qu_67 rfl)) H
    have H : Ev none e 181 48 [some (.ref 633), some (.int t), some (.int l), c3, c4, c5] [.ref 633, .int t, .ref 639] M v M' 0 0 := Ev.back 2 (fun n => rfl) H
    have H : Ev none e 181 51 [some (.ref 633), some (.int t), some (.int l), c3, c4, c5] [.ref 639, .int t, .ref 639] M v M' 0 0 := Ev.back 1 (gs_3 rfl rfl (gf_u hS.1 qa_633 qr_61_9 qu_67 rfl)) H
    have H : Ev none e 181 53 [some (.ref 633), some (.int t), some (.int l), c3, c4, c5] [.int 7, .ref 639, .int t, .ref 639] M v M' 0 0 := Ev.back 1 (fun n => rfl) H
    obtain ⟨b3, H⟩ := Ev.ial rfl rfl hS.1 qa_639 qw_67 H
    have H : Ev none e 181 54 [some (.ref 633), some (.int t), some (.int l), c3, c4, c5] [.int (rI M 639 7), .int t, .ref 639] M v M' 0 0 := H
    obtain ⟨b4, H⟩ := Ev.ias rfl rfl hS.1 qa_639 qw_67 H
    obtain ⟨N5, eN5⟩ : ∃ N, N = (wI M 639 t.toNatClampNeg (rI M 639 7)) := ⟨_, rfl⟩
    have hN5 : SQ N5 := by rw [eN5]; exact hS.ki
    have H : Ev none e 181 55 [some (.ref 633), some (.int t), some (.int l), c3, c4, c5] [] N5 v M' 0 0 := by rw [eN5]; exact H
    have H : Ev none e 181 57 [some (.ref 633), some (.int t), some (.int l), some (.int 0), c4, c5] [] N5 v M' 0 0 := Ev.back 2 (fun n => rfl) H
    have HF := H
    subst eN5
    exact Or.inr (⟨h1, b3, b4, HF⟩)
theorem teq_57 {e : Nat} {M M' : Mem} {v : Option Value} {t l k : Int32} {c4 c5 : Option Value} (hS : SQ M) (H : Ev none e 181 57 [some (.ref 633), some (.int t), some (.int l), some (.int k), c4, c5] [] M v M' 0 0) : (16 ≤ k ∧ Ev none e 181 155 [some (.ref 633), some (.int t), some (.int l), some (.int 0), c4, c5] [] M v M' 0 0) ∨ (¬ (16 ≤ k) ∧ (0 ≤ (112 + k).toInt ∧ (112 + k).toInt < 128) ∧ (0 ≤ ((16 * t) + k).toInt ∧ ((16 * t) + k).toInt < 128) ∧ (0 ≤ (112 + k).toInt ∧ (112 + k).toInt < 128) ∧ (0 ≤ ((16 * t) + k).toInt ∧ ((16 * t) + k).toInt < 128) ∧ (0 ≤ (112 + k).toInt ∧ (112 + k).toInt < 128) ∧ (0 ≤ ((16 * t) + k).toInt ∧ ((16 * t) + k).toInt < 128) ∧ (0 ≤ (112 + k).toInt ∧ (112 + k).toInt < 128) ∧ (0 ≤ ((16 * t) + k).toInt ∧ ((16 * t) + k).toInt < 128) ∧ (0 ≤ (112 + k).toInt ∧ (112 + k).toInt < 128) ∧ (0 ≤ ((16 * t) + k).toInt ∧ ((16 * t) + k).toInt < 128) ∧ Ev none e 181 57 [some (.ref 633), some (.int t), some (.int l), some (.int (k + 1)), some (.int (112 + k)), some (.int ((16 * t) + k))] [] (wI (wI (wI (wI (wI M 640 (((16 * t) + k).toNatClampNeg) (rI M 640 (112 + k))) 641 (((16 * t) + k).toNatClampNeg) (rI M 641 (112 + k))) 642 (((16 * t) + k).toNatClampNeg) (rI M 642 (112 + k))) 643 (((16 * t) + k).toNatClampNeg) (rI M 643 (112 + k))) 644 (((16 * t) + k).toNatClampNeg) (rI M 644 (112 + k))) v M' 0 0) := by
  have H : Ev none e 181 (if 16 ≤ k then 153 else 63) [some (.ref 633), some (.int t), some (.int l), some (.int k), c4, c5] [] M v M' 0 0 := Ev.back 3 (fun n => rfl) H
  by_cases h1 : 16 ≤ k
  · rw [if_pos h1] at H
    have H : Ev none e 181 155 [some (.ref 633), some (.int t), some (.int l), some (.int 0), c4, c5] [] M v M' 0 0 := Ev.back 2 (fun n => rfl) H
    have HF := H
    exact Or.inl ⟨h1, HF⟩
  · rw [if_neg h1] at H
    have H : Ev none e 181 78 [some (.ref 633), some (.int t), some (.int l), some (.int k), some (.int (112 + k)), some (.int ((16 * t) + k))] [.ref 633] M v M' 0 0 := Ev.back 11 (fun n => rfl) H
    have H : Ev none e 181 81 [some (.ref 633), some (.int t), some (.int l), some (.int k), some (.int (112 + k)), some (.int ((16 * t) + k))] [.ref 640] M v M' 0 0 := Ev.back 1 (gs_3 rfl rfl (gf_u hS.1 qa_633 qr_61_10 qu_68 rfl)) H
    have H : Ev none e 181 84 [some (.ref 633), some (.int t), some (.int l), some (.int k), some (.int (112 + k)), some (.int ((16 * t) + k))] [.ref 633, .int ((16 * t) + k), .ref 640] M v M' 0 0 := Ev.back 2 (fun n => rfl) H
    have H : Ev none e 181 87 [some (.ref 633), some (.int t), some (.int l), some (.int k), some (.int (112 + k)), some (.int ((16 * t) + k))] [.ref 640, .int ((16 * t) + k), .ref 640] M v M' 0 0 := Ev.back 1 (gs_3 rfl rfl (gf_u hS.1 qa_633 qr_61_10 qu_68 rfl)) H
    have H : Ev none e 181 89 [some (.ref 633), some (.int t), some (.int l), some (.int k), some (.int (112 + k)), some (.int ((16 * t) + k))] [.int (112 + k), .ref 640, .int ((16 * t) + k), .ref 640] M v M' 0 0 := Ev.back 1 (fun n => rfl) H
    obtain ⟨b2, H⟩ := Ev.ial rfl rfl hS.1 qa_640 qw_68 H
    have H : Ev none e 181 90 [some (.ref 633), some (.int t), some (.int l), some (.int k), some (.int (112 + k)), some (.int ((16 * t) + k))] [.int (rI M 640 (112 + k)), .int ((16 * t) + k), .ref 640] M v M' 0 0 := H
    obtain ⟨b3, H⟩ := Ev.ias rfl rfl hS.1 qa_640 qw_68 H
    obtain ⟨N4, eN4⟩ : ∃ N, N = (wI M 640 (((16 * t) + k).toNatClampNeg) (rI M 640 (112 + k))) := ⟨_, rfl⟩
    have hN4 : SQ N4 := by rw [eN4]; exact hS.ki
    have H : Ev none e 181 91 [some (.ref 633), some (.int t), some (.int l), some (.int k), some (.int (112 + k)), some (.int ((16 * t) + k))] [] N4 v M' 0 0 := by rw [eN4]; exact H
    have H : Ev none e 181 92 [some (.ref 633), some (.int t), some (.int l), some (.int k), some (.int (112 + k)), some (.int ((16 * t) + k))] [.ref 633] N4 v M' 0 0 := Ev.back 1 (fun n => rfl) H
    have H : Ev none e 181 95 [some (.ref 633), some (.int t), some (.int l), some (.int k), some (.int (112 + k)), some (.int ((16 * t) + k))] [.ref 641] N4 v M' 0 0 := Ev.back 1 (gs_3 rfl rfl (gf_u hN4.1 qa_633 qr_61_11 qu_69 rfl)) H
    have H : Ev none e 181 98 [some (.ref 633), some (.int t), some (.int l), some (.int k), some (.int (112 + k)), some (.int ((16 * t) + k))] [.ref 633, .int ((16 * t) + k), .ref 641] N4 v M' 0 0 := Ev.back 2 (fun n => rfl) H
    have H : Ev none e 181 101 [some (.ref 633), some (.int t), some (.int l), some (.int k), some (.int (112 + k)), some (.int ((16 * t) + k))] [.ref 641, .int ((16 * t) + k), .ref 641] N4 v M' 0 0 := Ev.back 1 (gs_3 rfl rfl (gf_u hN4.1 qa_633 qr_61_11 qu_69 rfl)) H
    have H : Ev none e 181 103 [some (.ref 633), some (.int t), some (.int l), some (.int k), some (.int (112 + k)), some (.int ((16 * t) + k))] [.int (112 + k), .ref 641, .int ((16 * t) + k), .ref 641] N4 v M' 0 0 := Ev.back 1 (fun n => rfl) H
    obtain ⟨b5, H⟩ := Ev.ial rfl rfl hN4.1 qa_641 qw_69 H
    have H : Ev none e 181 104 [some (.ref 633), some (.int t), some (.int l), some (.int k), some (.int (112 + k)), some (.int ((16 * t) + k))] [.int (rI N4 641 (112 + k)), .int ((16 * t) + k), .ref 641] N4 v M' 0 0 := H
    rw [show rI N4 641 (112 + k) = rI M 641 (112 + k) from by rw [eN4]; exact rN_wI_ne (fun q => absurd q.1 (by decide))] at H
    obtain ⟨b6, H⟩ := Ev.ias rfl rfl hN4.1 qa_641 qw_69 H
    obtain ⟨N7, eN7⟩ : ∃ N, N = (wI N4 641 (((16 * t) + k).toNatClampNeg) (rI M 641 (112 + k))) := ⟨_, rfl⟩
    have hN7 : SQ N7 := by rw [eN7]; exact hN4.ki
    have H : Ev none e 181 105 [some (.ref 633), some (.int t), some (.int l), some (.int k), some (.int (112 + k)), some (.int ((16 * t) + k))] [] N7 v M' 0 0 := by rw [eN7]; exact H
    have H : Ev none e 181 106 [some (.ref 633), some (.int t), some (.int l), some (.int k), some (.int (112 + k)), some (.int ((16 * t) + k))] [.ref 633] N7 v M' 0 0 := Ev.back 1 (fun n => rfl) H
    have H : Ev none e 181 109 [some (.ref 633), some (.int t), some (.int l), some (.int k), some (.int (112 + k)), some (.int ((16 * t) + k))] [.ref 642] N7 v M' 0 0 := Ev.back 1 (gs_3 rfl rfl (gf_u hN7.1 qa_633 qr_61_12 qu_70 rfl)) H
    have H : Ev none e 181 112 [some (.ref 633), some (.int t), some (.int l), some (.int k), some (.int (112 + k)), some (.int ((16 * t) + k))] [.ref 633, .int ((16 * t) + k), .ref 642] N7 v M' 0 0 := Ev.back 2 (fun n => rfl) H
    have H : Ev none e 181 115 [some (.ref 633), some (.int t), some (.int l), some (.int k), some (.int (112 + k)), some (.int ((16 * t) + k))] [.ref 642, .int ((16 * t) + k), .ref 642] N7 v M' 0 0 := Ev.back 1 (gs_3 rfl rfl (gf_u hN7.1 qa_633 qr_61_12 qu_70 rfl)) H
    have H : Ev none e 181 117 [some (.ref 633), some (.int t), some (.int l), some (.int k), some (.int (112 + k)), some (.int ((16 * t) + k))] [.int (112 + k), .ref 642, .int ((16 * t) + k), .ref 642] N7 v M' 0 0 := Ev.back 1 (fun n => rfl) H
    obtain ⟨b8, H⟩ := Ev.ial rfl rfl hN7.1 qa_642 qw_70 H
    have H : Ev none e 181 118 [some (.ref 633), some (.int t), some (.int l), some (.int k), some (.int (112 + k)), some (.int ((16 * t) + k))] [.int (rI N7 642 (112 + k)), .int ((16 * t) + k), .ref 642] N7 v M' 0 0 := H
    rw [(show rI N7 642 (112 + k) = rI N4 642 (112 + k) from by rw [eN7]; exact rN_wI_ne (fun q => absurd q.1 (by decide))).trans (show rI N4 642 (112 + k) = rI M 642 (112 + k) from by rw [eN4]; exact rN_wI_ne (fun q => absurd q.1 (by decide)))] at H
    obtain ⟨b9, H⟩ := Ev.ias rfl rfl hN7.1 qa_642 qw_70 H
    obtain ⟨N10, eN10⟩ : ∃ N, N = (wI N7 642 (((16 * t) + k).toNatClampNeg) (rI M 642 (112 + k))) := ⟨_, rfl⟩
    have hN10 : SQ N10 := by rw [eN10]; exact hN7.ki
    have H : Ev none e 181 119 [some (.ref 633), some (.int t), some (.int l), some (.int k), some (.int (112 + k)), some (.int ((16 * t) + k))] [] N10 v M' 0 0 := by rw [eN10]; exact H
    have H : Ev none e 181 120 [some (.ref 633), some (.int t), some (.int l), some (.int k), some (.int (112 + k)), some (.int ((16 * t) + k))] [.ref 633] N10 v M' 0 0 := Ev.back 1 (fun n => rfl) H
    have H : Ev none e 181 123 [some (.ref 633), some (.int t), some (.int l), some (.int k), some (.int (112 + k)), some (.int ((16 * t) + k))] [.ref 643] N10 v M' 0 0 := Ev.back 1 (gs_3 rfl rfl (gf_u hN10.1 qa_633 qr_61_13 qu_71 rfl)) H
    have H : Ev none e 181 126 [some (.ref 633), some (.int t), some (.int l), some (.int k), some (.int (112 + k)), some (.int ((16 * t) + k))] [.ref 633, .int ((16 * t) + k), .ref 643] N10 v M' 0 0 := Ev.back 2 (fun n => rfl) H
    have H : Ev none e 181 129 [some (.ref 633), some (.int t), some (.int l), some (.int k), some (.int (112 + k)), some (.int ((16 * t) + k))] [.ref 643, .int ((16 * t) + k), .ref 643] N10 v M' 0 0 := Ev.back 1 (gs_3 rfl rfl (gf_u hN10.1 qa_633 qr_61_13 qu_71 rfl)) H
    have H : Ev none e 181 131 [some (.ref 633), some (.int t), some (.int l), some (.int k), some (.int (112 + k)), some (.int ((16 * t) + k))] [.int (112 + k), .ref 643, .int ((16 * t) + k), .ref 643] N10 v M' 0 0 := Ev.back 1 (fun n => rfl) H
    obtain ⟨b11, H⟩ := Ev.ial rfl rfl hN10.1 qa_643 qw_71 H
    have H : Ev none e 181 132 [some (.ref 633), some (.int t), some (.int l), some (.int k), some (.int (112 + k)), some (.int ((16 * t) + k))] [.int (rI N10 643 (112 + k)), .int ((16 * t) + k), .ref 643] N10 v M' 0 0 := H
    rw [((show rI N10 643 (112 + k) = rI N7 643 (112 + k) from by rw [eN10]; exact rN_wI_ne (fun q => absurd q.1 (by decide))).trans (show rI N7 643 (112 + k) = rI N4 643 (112 + k) from by rw [eN7]; exact rN_wI_ne (fun q => absurd q.1 (by decide)))).trans (show rI N4 643 (112 + k) = rI M 643 (112 + k) from by rw [eN4]; exact rN_wI_ne (fun q => absurd q.1 (by decide)))] at H
    obtain ⟨b12, H⟩ := Ev.ias rfl rfl hN10.1 qa_643 qw_71 H
    obtain ⟨N13, eN13⟩ : ∃ N, N = (wI N10 643 (((16 * t) + k).toNatClampNeg) (rI M 643 (112 + k))) := ⟨_, rfl⟩
    have hN13 : SQ N13 := by rw [eN13]; exact hN10.ki
    have H : Ev none e 181 133 [some (.ref 633), some (.int t), some (.int l), some (.int k), some (.int (112 + k)), some (.int ((16 * t) + k))] [] N13 v M' 0 0 := by rw [eN13]; exact H
    have H : Ev none e 181 134 [some (.ref 633), some (.int t), some (.int l), some (.int k), some (.int (112 + k)), some (.int ((16 * t) + k))] [.ref 633] N13 v M' 0 0 := Ev.back 1 (fun n => rfl) H
    have H : Ev none e 181 137 [some (.ref 633), some (.int t), some (.int l), some (.int k), some (.int (112 + k)), some (.int ((16 * t) + k))] [.ref 644] N13 v M' 0 0 := Ev.back 1 (gs_3 rfl rfl (gf_u hN13.1 qa_633 qr_61_14 qu_72 rfl)) H
    have H : Ev none e 181 140 [some (.ref 633), some (.int t), some (.int l), some (.int k), some (.int (112 + k)), some (.int ((16 * t) + k))] [.ref 633, .int ((16 * t) + k), .ref 644] N13 v M' 0 0 := Ev.back 2 (fun n => rfl) H
    have H : Ev none e 181 143 [some (.ref 633), some (.int t), some (.int l), some (.int k), some (.int (112 + k)), some (.int ((16 * t) + k))] [.ref 644, .int ((16 * t) + k), .ref 644] N13 v M' 0 0 := Ev.back 1 (gs_3 rfl rfl (gf_u hN13.1 qa_633 qr_61_14 qu_72 rfl)) H
    have H : Ev none e 181 145 [some (.ref 633), some (.int t), some (.int l), some (.int k), some (.int (112 + k)), some (.int ((16 * t) + k))] [.int (112 + k), .ref 644, .int ((16 * t) + k), .ref 644] N13 v M' 0 0 := Ev.back 1 (fun n => rfl) H
    obtain ⟨b14, H⟩ := Ev.ial rfl rfl hN13.1 qa_644 qw_72 H
    have H : Ev none e 181 146 [some (.ref 633), some (.int t), some (.int l), some (.int k), some (.int (112 + k)), some (.int ((16 * t) + k))] [.int (rI N13 644 (112 + k)), .int ((16 * t) + k), .ref 644] N13 v M' 0 0 := H
    rw [(((show rI N13 644 (112 + k) = rI N10 644 (112 + k) from by rw [eN13]; exact rN_wI_ne (fun q => absurd q.1 (by decide))).trans (show rI N10 644 (112 + k) = rI N7 644 (112 + k) from by rw [eN10]; exact rN_wI_ne (fun q => absurd q.1 (by decide)))).trans (show rI N7 644 (112 + k) = rI N4 644 (112 + k) from by rw [eN7]; exact rN_wI_ne (fun q => absurd q.1 (by decide)))).trans (show rI N4 644 (112 + k) = rI M 644 (112 + k) from by rw [eN4]; exact rN_wI_ne (fun q => absurd q.1 (by decide)))] at H
    obtain ⟨b15, H⟩ := Ev.ias rfl rfl hN13.1 qa_644 qw_72 H
    obtain ⟨N16, eN16⟩ : ∃ N, N = (wI N13 644 (((16 * t) + k).toNatClampNeg) (rI M 644 (112 + k))) := ⟨_, rfl⟩
    have hN16 : SQ N16 := by rw [eN16]; exact hN13.ki
    have H : Ev none e 181 147 [some (.ref 633), some (.int t), some (.int l), some (.int k), some (.int (112 + k)), some (.int ((16 * t) + k))] [] N16 v M' 0 0 := by rw [eN16]; exact H
    have H : Ev none e 181 57 [some (.ref 633), some (.int t), some (.int l), some (.int (k + 1)), some (.int (112 + k)), some (.int ((16 * t) + k))] [] N16 v M' 0 0 := Ev.back 2 (fun n => rfl) H
    have HF := H
    subst eN4 eN7 eN10 eN13 eN16
    exact Or.inr (⟨h1, b2, b3, b5, b6, b8, b9, b11, b12, b14, b15, HF⟩)
theorem teq_155 {e : Nat} {M M' : Mem} {v : Option Value} {t l k : Int32} {c4 c5 : Option Value} (hS : SQ M) (H : Ev none e 181 155 [some (.ref 633), some (.int t), some (.int l), some (.int k), c4, c5] [] M v M' 0 0) : (200 ≤ k ∧ (0 ≤ t.toInt ∧ t.toInt < 8) ∧ v = some (.int (rI M 639 t)) ∧ M' = M) ∨ (¬ (200 ≤ k) ∧ (0 ≤ (1400 + k).toInt ∧ (1400 + k).toInt < 1600) ∧ (0 ≤ ((200 * t) + k).toInt ∧ ((200 * t) + k).toInt < 1600) ∧ (0 ≤ (1400 + k).toInt ∧ (1400 + k).toInt < 1600) ∧ (0 ≤ ((200 * t) + k).toInt ∧ ((200 * t) + k).toInt < 1600) ∧ (0 ≤ (1400 + k).toInt ∧ (1400 + k).toInt < 1600) ∧ (0 ≤ ((200 * t) + k).toInt ∧ ((200 * t) + k).toInt < 1600) ∧ Ev none e 181 155 [some (.ref 633), some (.int t), some (.int l), some (.int (k + 1)), c4, c5] [] (wI (wI (wI M 645 (((200 * t) + k).toNatClampNeg) (rI M 645 (1400 + k))) 646 (((200 * t) + k).toNatClampNeg) (rI M 646 (1400 + k))) 647 (((200 * t) + k).toNatClampNeg) (rI M 647 (1400 + k))) v M' 0 0) := by
  have H : Ev none e 181 (if 200 ≤ k then 234 else 162) [some (.ref 633), some (.int t), some (.int l), some (.int k), c4, c5] [] M v M' 0 0 := Ev.back 3 (fun n => rfl) H
  by_cases h1 : 200 ≤ k
  · rw [if_pos h1] at H
    have H : Ev none e 181 235 [some (.ref 633), some (.int t), some (.int l), some (.int k), c4, c5] [.ref 633] M v M' 0 0 := Ev.back 1 (fun n => rfl) H
    have H : Ev none e 181 238 [some (.ref 633), some (.int t), some (.int l), some (.int k), c4, c5] [.ref 639] M v M' 0 0 := Ev.back 1 (gs_3 rfl rfl (gf_u hS.1 qa_633 qr_61_9 qu_67 rfl)) H
    have H : Ev none e 181 239 [some (.ref 633), some (.int t), some (.int l), some (.int k), c4, c5] [.int t, .ref 639] M v M' 0 0 := Ev.back 1 (fun n => rfl) H
    obtain ⟨b2, H⟩ := Ev.ial rfl rfl hS.1 qa_639 qw_67 H
    have H : Ev none e 181 240 [some (.ref 633), some (.int t), some (.int l), some (.int k), c4, c5] [.int (rI M 639 t)] M v M' 0 0 := H
    obtain ⟨z1, z2⟩ := Ev.retz rfl rfl H
    exact Or.inl ⟨h1, b2, z1, z2⟩
  · rw [if_neg h1] at H
    have H : Ev none e 181 163 [some (.ref 633), some (.int t), some (.int l), some (.int k), c4, c5] [.ref 633] M v M' 0 0 := Ev.back 1 (fun n => rfl) H
    have H : Ev none e 181 166 [some (.ref 633), some (.int t), some (.int l), some (.int k), c4, c5] [.ref 645] M v M' 0 0 := Ev.back 1 (gs_3 rfl rfl (gf_u hS.1 qa_633 qr_61_15 qu_73 rfl)) H
    have H : Ev none e 181 174 [some (.ref 633), some (.int t), some (.int l), some (.int k), c4, c5] [.ref 633, .int ((200 * t) + k), .ref 645] M v M' 0 0 := Ev.back 6 (fun n => rfl) H
    have H : Ev none e 181 177 [some (.ref 633), some (.int t), some (.int l), some (.int k), c4, c5] [.ref 645, .int ((200 * t) + k), .ref 645] M v M' 0 0 := Ev.back 1 (gs_3 rfl rfl (gf_u hS.1 qa_633 qr_61_15 qu_73 rfl)) H
    have H : Ev none e 181 182 [some (.ref 633), some (.int t), some (.int l), some (.int k), c4, c5] [.int (1400 + k), .ref 645, .int ((200 * t) + k), .ref 645] M v M' 0 0 := Ev.back 3 (fun n => rfl) H
    obtain ⟨b3, H⟩ := Ev.ial rfl rfl hS.1 qa_645 qw_73 H
    have H : Ev none e 181 183 [some (.ref 633), some (.int t), some (.int l), some (.int k), c4, c5] [.int (rI M 645 (1400 + k)), .int ((200 * t) + k), .ref 645] M v M' 0 0 := H
    obtain ⟨b4, H⟩ := Ev.ias rfl rfl hS.1 qa_645 qw_73 H
    obtain ⟨N5, eN5⟩ : ∃ N, N = (wI M 645 (((200 * t) + k).toNatClampNeg) (rI M 645 (1400 + k))) := ⟨_, rfl⟩
    have hN5 : SQ N5 := by rw [eN5]; exact hS.ki
    have H : Ev none e 181 184 [some (.ref 633), some (.int t), some (.int l), some (.int k), c4, c5] [] N5 v M' 0 0 := by rw [eN5]; exact H
    have H : Ev none e 181 185 [some (.ref 633), some (.int t), some (.int l), some (.int k), c4, c5] [.ref 633] N5 v M' 0 0 := Ev.back 1 (fun n => rfl) H
    have H : Ev none e 181 188 [some (.ref 633), some (.int t), some (.int l), some (.int k), c4, c5] [.ref 646] N5 v M' 0 0 := Ev.back 1 (gs_3 rfl rfl (gf_u hN5.1 qa_633 qr_61_16 qu_74 rfl)) H
    have H : Ev none e 181 196 [some (.ref 633), some (.int t), some (.int l), some (.int k), c4, c5] [.ref 633, .int ((200 * t) + k), .ref 646] N5 v M' 0 0 := Ev.back 6 (fun n => rfl) H
    have H : Ev none e 181 199 [some (.ref 633), some (.int t), some (.int l), some (.int k), c4, c5] [.ref 646, .int ((200 * t) + k), .ref 646] N5 v M' 0 0 := Ev.back 1 (gs_3 rfl rfl (gf_u hN5.1 qa_633 qr_61_16 qu_74 rfl)) H
    have H : Ev none e 181 204 [some (.ref 633), some (.int t), some (.int l), some (.int k), c4, c5] [.int (1400 + k), .ref 646, .int ((200 * t) + k), .ref 646] N5 v M' 0 0 := Ev.back 3 (fun n => rfl) H
    obtain ⟨b6, H⟩ := Ev.ial rfl rfl hN5.1 qa_646 qw_74 H
    have H : Ev none e 181 205 [some (.ref 633), some (.int t), some (.int l), some (.int k), c4, c5] [.int (rI N5 646 (1400 + k)), .int ((200 * t) + k), .ref 646] N5 v M' 0 0 := H
    rw [show rI N5 646 (1400 + k) = rI M 646 (1400 + k) from by rw [eN5]; exact rN_wI_ne (fun q => absurd q.1 (by decide))] at H
    obtain ⟨b7, H⟩ := Ev.ias rfl rfl hN5.1 qa_646 qw_74 H
    obtain ⟨N8, eN8⟩ : ∃ N, N = (wI N5 646 (((200 * t) + k).toNatClampNeg) (rI M 646 (1400 + k))) := ⟨_, rfl⟩
    have hN8 : SQ N8 := by rw [eN8]; exact hN5.ki
    have H : Ev none e 181 206 [some (.ref 633), some (.int t), some (.int l), some (.int k), c4, c5] [] N8 v M' 0 0 := by rw [eN8]; exact H
    have H : Ev none e 181 207 [some (.ref 633), some (.int t), some (.int l), some (.int k), c4, c5] [.ref 633] N8 v M' 0 0 := Ev.back 1 (fun n => rfl) H
    have H : Ev none e 181 210 [some (.ref 633), some (.int t), some (.int l), some (.int k), c4, c5] [.ref 647] N8 v M' 0 0 := Ev.back 1 (gs_3 rfl rfl (gf_u hN8.1 qa_633 qr_61_17 qu_75 rfl)) H
    have H : Ev none e 181 218 [some (.ref 633), some (.int t), some (.int l), some (.int k), c4, c5] [.ref 633, .int ((200 * t) + k), .ref 647] N8 v M' 0 0 := Ev.back 6 (fun n => rfl) H
    have H : Ev none e 181 221 [some (.ref 633), some (.int t), some (.int l), some (.int k), c4, c5] [.ref 647, .int ((200 * t) + k), .ref 647] N8 v M' 0 0 := Ev.back 1 (gs_3 rfl rfl (gf_u hN8.1 qa_633 qr_61_17 qu_75 rfl)) H
    have H : Ev none e 181 226 [some (.ref 633), some (.int t), some (.int l), some (.int k), c4, c5] [.int (1400 + k), .ref 647, .int ((200 * t) + k), .ref 647] N8 v M' 0 0 := Ev.back 3 (fun n => rfl) H
    obtain ⟨b9, H⟩ := Ev.ial rfl rfl hN8.1 qa_647 qw_75 H
    have H : Ev none e 181 227 [some (.ref 633), some (.int t), some (.int l), some (.int k), c4, c5] [.int (rI N8 647 (1400 + k)), .int ((200 * t) + k), .ref 647] N8 v M' 0 0 := H
    rw [(show rI N8 647 (1400 + k) = rI N5 647 (1400 + k) from by rw [eN8]; exact rN_wI_ne (fun q => absurd q.1 (by decide))).trans (show rI N5 647 (1400 + k) = rI M 647 (1400 + k) from by rw [eN5]; exact rN_wI_ne (fun q => absurd q.1 (by decide)))] at H
    obtain ⟨b10, H⟩ := Ev.ias rfl rfl hN8.1 qa_647 qw_75 H
    obtain ⟨N11, eN11⟩ : ∃ N, N = (wI N8 647 (((200 * t) + k).toNatClampNeg) (rI M 647 (1400 + k))) := ⟨_, rfl⟩
    have hN11 : SQ N11 := by rw [eN11]; exact hN8.ki
    have H : Ev none e 181 228 [some (.ref 633), some (.int t), some (.int l), some (.int k), c4, c5] [] N11 v M' 0 0 := by rw [eN11]; exact H
    have H : Ev none e 181 155 [some (.ref 633), some (.int t), some (.int l), some (.int (k + 1)), c4, c5] [] N11 v M' 0 0 := Ev.back 2 (fun n => rfl) H
    have HF := H
    subst eN5 eN8 eN11
    exact Or.inr (⟨h1, b3, b4, b6, b7, b9, b10, HF⟩)
theorem toq_0 {e : Nat} {M M' : Mem} {v : Option Value} {k d : Int32} (hS : SQ M) (H : Ev none e 182 0 [some (.ref 633), some (.int k), some (.int d), none] [] M v M' 0 0) : (∃ e1 v1 M1, e = e1 + 1 ∧ Ev none e1 172 0 [some (.ref 633), some (.int 0), some (.int k), none] [] M v1 M1 0 0 ∧ Ev none e 182 6 [some (.ref 633), some (.int k), some (.int d), none] (v1.toList ++ []) M1 v M' 0 0) := by
  have H : Ev none e 182 3 [some (.ref 633), some (.int k), some (.int d), none] [.int k, .int 0, .ref 633] M v M' 0 0 := Ev.back 3 (fun n => rfl) H
  obtain ⟨e1, rfl⟩ := Ev.dpos rfl rfl H
  obtain ⟨vK1, MK1, K1, H⟩ := Ev.callb (fun n => gs_7 rfl rfl (show gCal (.invokevirtual 227) 11 (.int k :: .int 0 :: .ref 633 :: []) M = some (.inr (172, [some (.ref 633), some (.int 0), some (.int k), none], [])) from by show @cond (Option ((List Value × Mem) ⊕ (Nat × Lo × List Value))) (true && gRecv M (.ref 633) 11 && gRoom [] && true) (some (.inr (172, [some (.ref 633), some (.int 0), some (.int k), none], []))) none = _; rw [recv_s hS.1 qa_633 qo_61]; rfl)) H
  have K1 : Ev none e1 172 0 [some (.ref 633), some (.int 0), some (.int k), none] [] M vK1 MK1 0 0 := K1
  have HF := H
  exact ⟨e1, vK1, MK1, rfl, K1, HF⟩
theorem toq_6 {e : Nat} {M M' : Mem} {v : Option Value} {k d y : Int32} (hS : SQ M) (H : Ev none e 182 6 [some (.ref 633), some (.int k), some (.int d), none] [.int y] M v M' 0 0) : (0 ≤ y ∧ (0 ≤ y.toInt ∧ y.toInt < 128) ∧ v = some (.int (rI M 642 y)) ∧ M' = M) ∨ (¬ (0 ≤ y) ∧ v = some (.int d) ∧ M' = M) := by
  have H : Ev none e 182 (if 0 ≤ y then 15 else 11) [some (.ref 633), some (.int k), some (.int d), some (.int y)] [] M v M' 0 0 := Ev.back 3 (fun n => rfl) H
  by_cases h1 : 0 ≤ y
  · rw [if_pos h1] at H
    have H : Ev none e 182 16 [some (.ref 633), some (.int k), some (.int d), some (.int y)] [.ref 633] M v M' 0 0 := Ev.back 1 (fun n => rfl) H
    have H : Ev none e 182 19 [some (.ref 633), some (.int k), some (.int d), some (.int y)] [.ref 642] M v M' 0 0 := Ev.back 1 (gs_3 rfl rfl (gf_u hS.1 qa_633 qr_61_12 qu_70 rfl)) H
    have H : Ev none e 182 20 [some (.ref 633), some (.int k), some (.int d), some (.int y)] [.int y, .ref 642] M v M' 0 0 := Ev.back 1 (fun n => rfl) H
    obtain ⟨b2, H⟩ := Ev.ial rfl rfl hS.1 qa_642 qw_70 H
    have H : Ev none e 182 21 [some (.ref 633), some (.int k), some (.int d), some (.int y)] [.int (rI M 642 y)] M v M' 0 0 := H
    obtain ⟨z1, z2⟩ := Ev.retz rfl rfl H
    exact Or.inl ⟨h1, b2, z1, z2⟩
  · rw [if_neg h1] at H
    have H : Ev none e 182 21 [some (.ref 633), some (.int k), some (.int d), some (.int y)] [.int d] M v M' 0 0 := Ev.back 2 (fun n => rfl) H
    obtain ⟨z1, z2⟩ := Ev.retz rfl rfl H
    exact Or.inr (⟨h1, z1, z2⟩)
theorem lrq_0 {e : Nat} {M M' : Mem} {v : Option Value} (hS : SQ M) (H : Ev none e 183 0 [some (.ref 633), none] [] M v M' 0 0) : (∃ e1 v1 M1, e = e1 + 1 ∧ Ev none e1 181 0 [some (.ref 633), some (.int 0), some (.int 1), none, none, none] [] (X_139 (wF M 633 0 0)) v1 M1 0 0 ∧ Ev none e 183 15 [some (.ref 633), none] (v1.toList ++ []) M1 v M' 0 0) := by
  have H : Ev none e 183 2 [some (.ref 633), none] [.int 0, .ref 633] M v M' 0 0 := Ev.back 2 (fun n => rfl) H
  obtain ⟨N2, eN2⟩ : ∃ N, N = (wF M 633 0 0) := ⟨_, rfl⟩
  have hN2 : SQ N2 := by rw [eN2]; exact hS.kf
  have H : Ev none e 183 5 [some (.ref 633), none] [] N2 v M' 0 0 := by rw [eN2]; exact Ev.pfi rfl rfl rfl hS.1 qa_633 qi_61_0 H
  have H : Ev none e 183 6 [some (.ref 633), none] [.ref 633] N2 v M' 0 0 := Ev.back 1 (fun n => rfl) H
  obtain ⟨e1, rfl⟩ := Ev.dpos rfl rfl H
  obtain ⟨vK3, MK3, K3, H⟩ := Ev.callb (fun n => gs_7 rfl rfl (show gCal (.invokevirtual 144) 11 (.ref 633 :: []) N2 = some (.inr (139, [some (.ref 633)], [])) from by show @cond (Option ((List Value × Mem) ⊕ (Nat × Lo × List Value))) (true && gRecv N2 (.ref 633) 11 && gRoom [] && true) (some (.inr (139, [some (.ref 633)], []))) none = _; rw [recv_s hN2.1 qa_633 qo_61]; rfl)) H
  obtain ⟨pK3, qK3⟩ := g_139 hN2 K3
  rw [pK3, qK3] at H
  obtain ⟨N4, eN4⟩ : ∃ N, N = (X_139 N2) := ⟨_, rfl⟩
  have hN4 : SQ N4 := by rw [eN4]; exact X_139_sx hN2
  rw [← eN4] at H
  have H : Ev none (e1 + 1) 183 9 [some (.ref 633), none] [] N4 v M' 0 0 := H
  have H : Ev none (e1 + 1) 183 12 [some (.ref 633), none] [.int 1, .int 0, .ref 633] N4 v M' 0 0 := Ev.back 3 (fun n => rfl) H
  obtain ⟨vK5, MK5, K5, H⟩ := Ev.callb (fun n => gs_7 rfl rfl (show gCal (.invokevirtual 325) 11 (.int 1 :: .int 0 :: .ref 633 :: []) N4 = some (.inr (181, [some (.ref 633), some (.int 0), some (.int 1), none, none, none], [])) from by show @cond (Option ((List Value × Mem) ⊕ (Nat × Lo × List Value))) (true && gRecv N4 (.ref 633) 11 && gRoom [] && true) (some (.inr (181, [some (.ref 633), some (.int 0), some (.int 1), none, none, none], []))) none = _; rw [recv_s hN4.1 qa_633 qo_61]; rfl)) H
  have K5 : Ev none e1 181 0 [some (.ref 633), some (.int 0), some (.int 1), none, none, none] [] N4 vK5 MK5 0 0 := K5
  have HF := H
  subst eN2 eN4
  exact ⟨e1, vK5, MK5, rfl, K5, HF⟩
theorem lrq_15 {e : Nat} {M M' : Mem} {v : Option Value} {y : Int32} (hS : SQ M) (H : Ev none e 183 15 [some (.ref 633), none] [.int y] M v M' 0 0) : (0 ≤ y ∧ (∃ e1 v1 M1, e = e1 + 1 ∧ Ev none e1 182 0 [some (.ref 633), some (.int 2), some (.int 40), none] [] M v1 M1 0 0 ∧ Ev none e 183 30 [some (.ref 633), some (.int y)] (v1.toList ++ [.ref 633]) M1 v M' 0 0)) ∨ (¬ (0 ≤ y) ∧ v = some (.int y) ∧ M' = M) := by
  have H : Ev none e 183 (if 0 ≤ y then 22 else 20) [some (.ref 633), some (.int y)] [] M v M' 0 0 := Ev.back 3 (fun n => rfl) H
  by_cases h1 : 0 ≤ y
  · rw [if_pos h1] at H
    have H : Ev none e 183 27 [some (.ref 633), some (.int y)] [.int 40, .int 2, .ref 633, .ref 633] M v M' 0 0 := Ev.back 4 (fun n => rfl) H
    obtain ⟨e1, rfl⟩ := Ev.dpos rfl rfl H
    obtain ⟨vK2, MK2, K2, H⟩ := Ev.callb (fun n => gs_7 rfl rfl (show gCal (.invokevirtual 329) 11 (.int 40 :: .int 2 :: .ref 633 :: [.ref 633]) M = some (.inr (182, [some (.ref 633), some (.int 2), some (.int 40), none], [.ref 633])) from by show @cond (Option ((List Value × Mem) ⊕ (Nat × Lo × List Value))) (true && gRecv M (.ref 633) 11 && gRoom [.ref 633] && true) (some (.inr (182, [some (.ref 633), some (.int 2), some (.int 40), none], [.ref 633]))) none = _; rw [recv_s hS.1 qa_633 qo_61]; rfl)) H
    have K2 : Ev none e1 182 0 [some (.ref 633), some (.int 2), some (.int 40), none] [] M vK2 MK2 0 0 := K2
    have HF := H
    exact Or.inl ⟨h1, ⟨e1, vK2, MK2, rfl, K2, HF⟩⟩
  · rw [if_neg h1] at H
    have H : Ev none e 183 21 [some (.ref 633), some (.int y)] [.int y] M v M' 0 0 := Ev.back 1 (fun n => rfl) H
    obtain ⟨z1, z2⟩ := Ev.retz rfl rfl H
    exact Or.inr (⟨h1, z1, z2⟩)
theorem lrq_30 {e : Nat} {M M' : Mem} {v : Option Value} {y z : Int32} (hS : SQ M) (H : Ev none e 183 30 [some (.ref 633), some (.int y)] [.int z, .ref 633] M v M' 0 0) : (∃ e1 v1 M1, e = e1 + 1 ∧ Ev none e1 182 0 [some (.ref 633), some (.int 3), some (.int 50), none] [] (wF M 633 28 z) v1 M1 0 0 ∧ Ev none e 183 41 [some (.ref 633), some (.int y)] (v1.toList ++ [.ref 633]) M1 v M' 0 0) := by
  obtain ⟨N2, eN2⟩ : ∃ N, N = (wF M 633 28 z) := ⟨_, rfl⟩
  have hN2 : SQ N2 := by rw [eN2]; exact hS.kf
  have H : Ev none e 183 33 [some (.ref 633), some (.int y)] [] N2 v M' 0 0 := by rw [eN2]; exact Ev.pfi rfl rfl rfl hS.1 qa_633 qi_61_28 H
  have H : Ev none e 183 38 [some (.ref 633), some (.int y)] [.int 50, .int 3, .ref 633, .ref 633] N2 v M' 0 0 := Ev.back 4 (fun n => rfl) H
  obtain ⟨e1, rfl⟩ := Ev.dpos rfl rfl H
  obtain ⟨vK3, MK3, K3, H⟩ := Ev.callb (fun n => gs_7 rfl rfl (show gCal (.invokevirtual 329) 11 (.int 50 :: .int 3 :: .ref 633 :: [.ref 633]) N2 = some (.inr (182, [some (.ref 633), some (.int 3), some (.int 50), none], [.ref 633])) from by show @cond (Option ((List Value × Mem) ⊕ (Nat × Lo × List Value))) (true && gRecv N2 (.ref 633) 11 && gRoom [.ref 633] && true) (some (.inr (182, [some (.ref 633), some (.int 3), some (.int 50), none], [.ref 633]))) none = _; rw [recv_s hN2.1 qa_633 qo_61]; rfl)) H
  have K3 : Ev none e1 182 0 [some (.ref 633), some (.int 3), some (.int 50), none] [] N2 vK3 MK3 0 0 := K3
  have HF := H
  subst eN2
  exact ⟨e1, vK3, MK3, rfl, K3, HF⟩
theorem lrq_41 {e : Nat} {M M' : Mem} {v : Option Value} {y z : Int32} (hS : SQ M) (H : Ev none e 183 41 [some (.ref 633), some (.int y)] [.int z, .ref 633] M v M' 0 0) : (∃ e1 v1 M1, e = e1 + 1 ∧ Ev none e1 182 0 [some (.ref 633), some (.int 4), some (.int 10), none] [] (wF M 633 29 z) v1 M1 0 0 ∧ Ev none e 183 52 [some (.ref 633), some (.int y)] (v1.toList ++ [.ref 633]) M1 v M' 0 0) := by
  obtain ⟨N2, eN2⟩ : ∃ N, N = (wF M 633 29 z) := ⟨_, rfl⟩
  have hN2 : SQ N2 := by rw [eN2]; exact hS.kf
  have H : Ev none e 183 44 [some (.ref 633), some (.int y)] [] N2 v M' 0 0 := by rw [eN2]; exact Ev.pfi rfl rfl rfl hS.1 qa_633 qi_61_29 H
  have H : Ev none e 183 49 [some (.ref 633), some (.int y)] [.int 10, .int 4, .ref 633, .ref 633] N2 v M' 0 0 := Ev.back 4 (fun n => rfl) H
  obtain ⟨e1, rfl⟩ := Ev.dpos rfl rfl H
  obtain ⟨vK3, MK3, K3, H⟩ := Ev.callb (fun n => gs_7 rfl rfl (show gCal (.invokevirtual 329) 11 (.int 10 :: .int 4 :: .ref 633 :: [.ref 633]) N2 = some (.inr (182, [some (.ref 633), some (.int 4), some (.int 10), none], [.ref 633])) from by show @cond (Option ((List Value × Mem) ⊕ (Nat × Lo × List Value))) (true && gRecv N2 (.ref 633) 11 && gRoom [.ref 633] && true) (some (.inr (182, [some (.ref 633), some (.int 4), some (.int 10), none], [.ref 633]))) none = _; rw [recv_s hN2.1 qa_633 qo_61]; rfl)) H
  have K3 : Ev none e1 182 0 [some (.ref 633), some (.int 4), some (.int 10), none] [] N2 vK3 MK3 0 0 := K3
  have HF := H
  subst eN2
  exact ⟨e1, vK3, MK3, rfl, K3, HF⟩
theorem lrq_52 {e : Nat} {M M' : Mem} {v : Option Value} {y z : Int32} (hS : SQ M) (H : Ev none e 183 52 [some (.ref 633), some (.int y)] [.int z, .ref 633] M v M' 0 0) : v = some (.int y) ∧ M' = (wF M 633 30 z) := by
  obtain ⟨N2, eN2⟩ : ∃ N, N = (wF M 633 30 z) := ⟨_, rfl⟩
  have hN2 : SQ N2 := by rw [eN2]; exact hS.kf
  have H : Ev none e 183 55 [some (.ref 633), some (.int y)] [] N2 v M' 0 0 := by rw [eN2]; exact Ev.pfi rfl rfl rfl hS.1 qa_633 qi_61_30 H
  have H : Ev none e 183 56 [some (.ref 633), some (.int y)] [.int y] N2 v M' 0 0 := Ev.back 1 (fun n => rfl) H
  obtain ⟨z1, z2⟩ := Ev.retz rfl rfl H
  subst eN2
  exact ⟨z1, z2⟩
theorem hrq_0 {e : Nat} {M M' : Mem} {v : Option Value} {x : Int32} (hS : SQ M) (H : Ev none e 184 0 [some (.ref 633), some (.int x)] [] M v M' 0 0) : ((G_140 (X_139 (wF M 633 0 0)) x 0 5) = 0 ∧ v = some (.int (-1000)) ∧ M' = (X_139 (wF M 633 0 0))) ∨ (¬ ((G_140 (X_139 (wF M 633 0 0)) x 0 5) = 0) ∧ (∃ e1 v1 M1, e = e1 + 1 ∧ Ev none e1 181 0 [some (.ref 633), some (.int (1 + x)), some (.int 0), none, none, none] [] (X_139 (wF M 633 0 0)) v1 M1 0 0 ∧ Ev none e 184 26 [some (.ref 633), some (.int x)] (v1.toList ++ []) M1 v M' 0 0)) := by
  have H : Ev none e 184 2 [some (.ref 633), some (.int x)] [.int 0, .ref 633] M v M' 0 0 := Ev.back 2 (fun n => rfl) H
  obtain ⟨N2, eN2⟩ : ∃ N, N = (wF M 633 0 0) := ⟨_, rfl⟩
  have hN2 : SQ N2 := by rw [eN2]; exact hS.kf
  have H : Ev none e 184 5 [some (.ref 633), some (.int x)] [] N2 v M' 0 0 := by rw [eN2]; exact Ev.pfi rfl rfl rfl hS.1 qa_633 qi_61_0 H
  have H : Ev none e 184 6 [some (.ref 633), some (.int x)] [.ref 633] N2 v M' 0 0 := Ev.back 1 (fun n => rfl) H
  obtain ⟨e1, rfl⟩ := Ev.dpos rfl rfl H
  obtain ⟨vK3, MK3, K3, H⟩ := Ev.callb (fun n => gs_7 rfl rfl (show gCal (.invokevirtual 144) 11 (.ref 633 :: []) N2 = some (.inr (139, [some (.ref 633)], [])) from by show @cond (Option ((List Value × Mem) ⊕ (Nat × Lo × List Value))) (true && gRecv N2 (.ref 633) 11 && gRoom [] && true) (some (.inr (139, [some (.ref 633)], []))) none = _; rw [recv_s hN2.1 qa_633 qo_61]; rfl)) H
  obtain ⟨pK3, qK3⟩ := g_139 hN2 K3
  rw [pK3, qK3] at H
  obtain ⟨N4, eN4⟩ : ∃ N, N = (X_139 N2) := ⟨_, rfl⟩
  have hN4 : SQ N4 := by rw [eN4]; exact X_139_sx hN2
  rw [← eN4] at H
  have H : Ev none (e1 + 1) 184 9 [some (.ref 633), some (.int x)] [] N4 v M' 0 0 := H
  have H : Ev none (e1 + 1) 184 12 [some (.ref 633), some (.int x)] [.int 5, .int 0, .int x] N4 v M' 0 0 := Ev.back 3 (fun n => rfl) H
  obtain ⟨vK5, MK5, K5, H⟩ := Ev.callb (fun n => rfl) H
  obtain ⟨pK5, qK5⟩ := g_140 hN4 K5
  rw [pK5, qK5] at H
  have H : Ev none (e1 + 1) 184 15 [some (.ref 633), some (.int x)] [.int (G_140 N4 x 0 5)] N4 v M' 0 0 := H
  have H : Ev none (e1 + 1) 184 (if (G_140 N4 x 0 5) = 0 then 29 else 18) [some (.ref 633), some (.int x)] [] N4 v M' 0 0 := Ev.back 1 (fun n => rfl) H
  by_cases h6 : (G_140 N4 x 0 5) = 0
  · rw [if_pos h6] at H
    have H : Ev none (e1 + 1) 184 32 [some (.ref 633), some (.int x)] [.int (-1000)] N4 v M' 0 0 := Ev.back 1 (fun n => rfl) H
    obtain ⟨z1, z2⟩ := Ev.retz rfl rfl H
    subst eN2 eN4
    exact Or.inl ⟨h6, z1, z2⟩
  · rw [if_neg h6] at H
    have H : Ev none (e1 + 1) 184 23 [some (.ref 633), some (.int x)] [.int 0, .int (1 + x), .ref 633] N4 v M' 0 0 := Ev.back 5 (fun n => rfl) H
    obtain ⟨vK7, MK7, K7, H⟩ := Ev.callb (fun n => gs_7 rfl rfl (show gCal (.invokevirtual 325) 11 (.int 0 :: .int (1 + x) :: .ref 633 :: []) N4 = some (.inr (181, [some (.ref 633), some (.int (1 + x)), some (.int 0), none, none, none], [])) from by show @cond (Option ((List Value × Mem) ⊕ (Nat × Lo × List Value))) (true && gRecv N4 (.ref 633) 11 && gRoom [] && true) (some (.inr (181, [some (.ref 633), some (.int (1 + x)), some (.int 0), none, none, none], []))) none = _; rw [recv_s hN4.1 qa_633 qo_61]; rfl)) H
    have K7 : Ev none e1 181 0 [some (.ref 633), some (.int (1 + x)), some (.int 0), none, none, none] [] N4 vK7 MK7 0 0 := K7
    have HF := H
    subst eN2 eN4
    exact Or.inr (⟨h6, ⟨e1, vK7, MK7, rfl, K7, HF⟩⟩)
theorem hrq_26 {e : Nat} {M M' : Mem} {v : Option Value} {x y : Int32} (hS : SQ M) (H : Ev none e 184 26 [some (.ref 633), some (.int x)] [.int y] M v M' 0 0) : v = some (.int y) ∧ M' = M := by
  have H : Ev none e 184 32 [some (.ref 633), some (.int x)] [.int y] M v M' 0 0 := Ev.back 1 (fun n => rfl) H
  obtain ⟨z1, z2⟩ := Ev.retz rfl rfl H
  exact ⟨z1, z2⟩
