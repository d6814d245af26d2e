/-! THE CLASS: pieces of habit (made by gcl.py) -/
theorem hb_0 {e : Nat} {M M' : Mem} {v : Option Value} {x : Int32} (hS : SQ M) (H : Ev none e 86 0 [some (.ref 0), some (.int x), none, none] [] M v M' 0 0) : ((G_126 M x 0 5) = 0 ∧ v = some (.int (-1000)) ∧ M' = (wF M 1 1 0)) ∨ (¬ ((G_126 M x 0 5) = 0) ∧ (∃ e1 v1 M1, e = e1 + 1 ∧ Ev none e1 26 0 [some (.ref 3), some (.ref (fR M 104 3)), some (.int 0), none] [] M v1 M1 0 0 ∧ Ev none e 86 36 [some (.ref 0), some (.int x), none, none] (v1.toList ++ []) M1 v M' 0 0)) := by
  have H : Ev none e 86 3 [some (.ref 0), some (.int x), none, none] [.int 5, .int 0, .int x] M v M' 0 0 := Ev.back 3 (fun n => rfl) H
  obtain ⟨e1, rfl⟩ := Ev.dpos rfl rfl H
  obtain ⟨vK1, MK1, K1, H⟩ := Ev.callb (fun n => rfl) H
  obtain ⟨pK1, qK1⟩ := g_126 hS K1
  rw [pK1, qK1] at H
  have H : Ev none (e1 + 1) 86 6 [some (.ref 0), some (.int x), none, none] [.int (G_126 M x 0 5)] M v M' 0 0 := H
  have H : Ev none (e1 + 1) 86 (if (G_126 M x 0 5) = 0 then 9 else 21) [some (.ref 0), some (.int x), none, none] [] M v M' 0 0 := Ev.back 1 (fun n => rfl) H
  by_cases h2 : (G_126 M x 0 5) = 0
  · rw [if_pos h2] at H
    have H : Ev none (e1 + 1) 86 10 [some (.ref 0), some (.int x), none, none] [.ref 0] M v M' 0 0 := Ev.back 1 (fun n => rfl) H
    have H : Ev none (e1 + 1) 86 13 [some (.ref 0), some (.int x), none, none] [.ref 1] M v M' 0 0 := Ev.back 1 (gs_3 rfl rfl (gf_u hS.1 qa_0 qr_0_0 qu_1 rfl)) H
    have H : Ev none (e1 + 1) 86 14 [some (.ref 0), some (.int x), none, none] [.int 0, .ref 1] M v M' 0 0 := Ev.back 1 (fun n => rfl) H
    obtain ⟨N4, eN4⟩ : ∃ N, N = (wF M 1 1 0) := ⟨_, rfl⟩
    have hN4 : SQ N4 := by rw [eN4]; exact hS.kf
    have H : Ev none (e1 + 1) 86 17 [some (.ref 0), some (.int x), none, none] [] N4 v M' 0 0 := by rw [eN4]; exact Ev.pfi rfl rfl rfl hS.1 qa_1 qi_1_1 H
    have H : Ev none (e1 + 1) 86 20 [some (.ref 0), some (.int x), none, none] [.int (-1000)] N4 v M' 0 0 := Ev.back 1 (fun n => rfl) H
    obtain ⟨z1, z2⟩ := Ev.retz rfl rfl H
    subst eN4
    exact Or.inl ⟨h2, z1, z2⟩
  · rw [if_neg h2] at H
    have H : Ev none (e1 + 1) 86 22 [some (.ref 0), some (.int x), none, none] [.ref 0] M v M' 0 0 := Ev.back 1 (fun n => rfl) H
    have H : Ev none (e1 + 1) 86 25 [some (.ref 0), some (.int x), none, none] [.ref 3] M v M' 0 0 := Ev.back 1 (gs_3 rfl rfl (gf_u hS.1 qa_0 qr_0_1 qu_3 rfl)) H
    have H : Ev none (e1 + 1) 86 26 [some (.ref 0), some (.int x), none, none] [.ref 0, .ref 3] M v M' 0 0 := Ev.back 1 (fun n => rfl) H
    have H : Ev none (e1 + 1) 86 29 [some (.ref 0), some (.int x), none, none] [.ref 104, .ref 3] M v M' 0 0 := Ev.back 1 (gs_3 rfl rfl (gf_u hS.1 qa_0 qr_0_3 qu_22 rfl)) H
    have H : Ev none (e1 + 1) 86 32 [some (.ref 0), some (.int x), none, none] [.ref (fR M 104 3), .ref 3] M v M' 0 0 := Ev.back 1 (gs_3 rfl rfl (gf_r hS.1 qa_104 qr_22_3 rfl)) H
    have H : Ev none (e1 + 1) 86 33 [some (.ref 0), some (.int x), none, none] [.int 0, .ref (fR M 104 3), .ref 3] M v M' 0 0 := Ev.back 1 (fun n => rfl) H
    obtain ⟨vK5, MK5, K5, H⟩ := Ev.callb (fun n => gs_7 rfl rfl (show gCal (.invokevirtual 130) 10 (.int 0 :: .ref (fR M 104 3) :: .ref 3 :: []) M = some (.inr (26, [some (.ref 3), some (.ref (fR M 104 3)), some (.int 0), none], [])) from by show @cond (Option ((List Value × Mem) ⊕ (Nat × Lo × List Value))) (true && gRecv M (.ref 3) 3 && gRoom [] && true) (some (.inr (26, [some (.ref 3), some (.ref (fR M 104 3)), some (.int 0), none], []))) none = _; rw [recv_s hS.1 qa_3 qo_3]; rfl)) H
    have K5 : Ev none e1 26 0 [some (.ref 3), some (.ref (fR M 104 3)), some (.int 0), none] [] M vK5 MK5 0 0 := K5
    have HF := H
    exact Or.inr (⟨h2, ⟨e1, vK5, MK5, rfl, K5, HF⟩⟩)
theorem hb_21 {e : Nat} {M M' : Mem} {v : Option Value} {x : Int32} (hS : SQ M) (H : Ev none e 86 21 [some (.ref 0), some (.int x), none, none] [] M v M' 0 0) : (∃ e1 v1 M1, e = e1 + 1 ∧ Ev none e1 26 0 [some (.ref 3), some (.ref (fR M 104 3)), some (.int 0), none] [] M v1 M1 0 0 ∧ Ev none e 86 36 [some (.ref 0), some (.int x), none, none] (v1.toList ++ []) M1 v M' 0 0) := by
  have H : Ev none e 86 22 [some (.ref 0), some (.int x), none, none] [.ref 0] M v M' 0 0 := Ev.back 1 (fun n => rfl) H
  have H : Ev none e 86 25 [some (.ref 0), some (.int x), none, none] [.ref 3] M v M' 0 0 := Ev.back 1 (gs_3 rfl rfl (gf_u hS.1 qa_0 qr_0_1 qu_3 rfl)) H
  have H : Ev none e 86 26 [some (.ref 0), some (.int x), none, none] [.ref 0, .ref 3] M v M' 0 0 := Ev.back 1 (fun n => rfl) H
  have H : Ev none e 86 29 [some (.ref 0), some (.int x), none, none] [.ref 104, .ref 3] M v M' 0 0 := Ev.back 1 (gs_3 rfl rfl (gf_u hS.1 qa_0 qr_0_3 qu_22 rfl)) H
  have H : Ev none e 86 32 [some (.ref 0), some (.int x), none, none] [.ref (fR M 104 3), .ref 3] M v M' 0 0 := Ev.back 1 (gs_3 rfl rfl (gf_r hS.1 qa_104 qr_22_3 rfl)) H
  have H : Ev none e 86 33 [some (.ref 0), some (.int x), none, none] [.int 0, .ref (fR M 104 3), .ref 3] M v M' 0 0 := Ev.back 1 (fun n => rfl) H
  obtain ⟨e1, rfl⟩ := Ev.dpos rfl rfl H
  obtain ⟨vK1, MK1, K1, H⟩ := Ev.callb (fun n => gs_7 rfl rfl (show gCal (.invokevirtual 130) 10 (.int 0 :: .ref (fR M 104 3) :: .ref 3 :: []) M = some (.inr (26, [some (.ref 3), some (.ref (fR M 104 3)), some (.int 0), none], [])) from by show @cond (Option ((List Value × Mem) ⊕ (Nat × Lo × List Value))) (true && gRecv M (.ref 3) 3 && gRoom [] && true) (some (.inr (26, [some (.ref 3), some (.ref (fR M 104 3)), some (.int 0), none], []))) none = _; rw [recv_s hS.1 qa_3 qo_3]; rfl)) H
  have K1 : Ev none e1 26 0 [some (.ref 3), some (.ref (fR M 104 3)), some (.int 0), none] [] M vK1 MK1 0 0 := K1
  have HF := H
  exact ⟨e1, vK1, MK1, rfl, K1, HF⟩
theorem hb_36 {e : Nat} {M M' : Mem} {v : Option Value} {x y : Int32} (hS : SQ M) (H : Ev none e 86 36 [some (.ref 0), some (.int x), none, none] [.int y] M v M' 0 0) : (y = 0 ∧ (0 ≤ x.toInt ∧ x.toInt < 6) ∧ (∃ e1 v1 M1, e = e1 + 1 ∧ Ev none e1 87 0 [some (.ref 0), some (.int y), some (.ref (oI M 109 x))] [] M v1 M1 0 0 ∧ Ev none e 86 89 [some (.ref 0), some (.int x), some (.int y), none] (v1.toList ++ []) M1 v M' 0 0)) ∨ (¬ (y = 0) ∧ (0 ≤ x.toInt ∧ x.toInt < 6) ∧ (0 ≤ x.toInt ∧ x.toInt < 6) ∧ (0 ≤ x.toInt ∧ x.toInt < 6) ∧ (∃ e1 v1 M1, e = e1 + 1 ∧ Ev none e1 87 0 [some (.ref 0), some (.int y), some (.ref (oI (wR (wO M 109 x.toNatClampNeg (fR M 104 3)) 104 3 (oI M 109 x)) 109 x))] [] (wR (wO M 109 x.toNatClampNeg (fR M 104 3)) 104 3 (oI M 109 x)) v1 M1 0 0 ∧ Ev none e 86 89 [some (.ref 0), some (.int x), some (.int y), some (.ref (oI M 109 x))] (v1.toList ++ []) M1 v M' 0 0)) := by
  have H : Ev none e 86 (if y = 0 then 75 else 41) [some (.ref 0), some (.int x), some (.int y), none] [] M v M' 0 0 := Ev.back 3 (fun n => rfl) H
  by_cases h1 : y = 0
  · rw [if_pos h1] at H
    have H : Ev none e 86 78 [some (.ref 0), some (.int x), some (.int y), none] [.ref 0, .int y, .ref 0] M v M' 0 0 := Ev.back 3 (fun n => rfl) H
    have H : Ev none e 86 81 [some (.ref 0), some (.int x), some (.int y), none] [.ref 104, .int y, .ref 0] M v M' 0 0 := Ev.back 1 (gs_3 rfl rfl (gf_u hS.1 qa_0 qr_0_3 qu_22 rfl)) H
    have H : Ev none e 86 84 [some (.ref 0), some (.int x), some (.int y), none] [.ref 109, .int y, .ref 0] M v M' 0 0 := Ev.back 1 (gs_3 rfl rfl (gf_u hS.1 qa_104 qr_22_1 qu_27 rfl)) H
    have H : Ev none e 86 85 [some (.ref 0), some (.int x), some (.int y), none] [.int x, .ref 109, .int y, .ref 0] M v M' 0 0 := Ev.back 1 (fun n => rfl) H
    obtain ⟨b2, H⟩ := Ev.aal rfl rfl hS.1 qa_109 qz_27 H
    have H : Ev none e 86 86 [some (.ref 0), some (.int x), some (.int y), none] [.ref (oI M 109 x), .int y, .ref 0] M v M' 0 0 := H
    obtain ⟨e1, rfl⟩ := Ev.dpos rfl rfl H
    obtain ⟨vK3, MK3, K3, H⟩ := Ev.callb (fun n => gs_7 rfl rfl (show gCal (.invokevirtual 137) 10 (.ref (oI M 109 x) :: .int y :: .ref 0 :: []) M = some (.inr (87, [some (.ref 0), some (.int y), some (.ref (oI M 109 x))], [])) from by show @cond (Option ((List Value × Mem) ⊕ (Nat × Lo × List Value))) (true && gRecv M (.ref 0) 10 && gRoom [] && true) (some (.inr (87, [some (.ref 0), some (.int y), some (.ref (oI M 109 x))], []))) none = _; rw [recv_s hS.1 qa_0 qo_0]; rfl)) H
    have K3 : Ev none e1 87 0 [some (.ref 0), some (.int y), some (.ref (oI M 109 x))] [] M vK3 MK3 0 0 := K3
    have HF := H
    exact Or.inl ⟨h1, b2.1, ⟨e1, vK3, MK3, rfl, K3, HF⟩⟩
  · rw [if_neg h1] at H
    have H : Ev none e 86 42 [some (.ref 0), some (.int x), some (.int y), none] [.ref 0] M v M' 0 0 := Ev.back 1 (fun n => rfl) H
    have H : Ev none e 86 45 [some (.ref 0), some (.int x), some (.int y), none] [.ref 104] M v M' 0 0 := Ev.back 1 (gs_3 rfl rfl (gf_u hS.1 qa_0 qr_0_3 qu_22 rfl)) H
    have H : Ev none e 86 48 [some (.ref 0), some (.int x), some (.int y), none] [.ref 109] M v M' 0 0 := Ev.back 1 (gs_3 rfl rfl (gf_u hS.1 qa_104 qr_22_1 qu_27 rfl)) H
    have H : Ev none e 86 49 [some (.ref 0), some (.int x), some (.int y), none] [.int x, .ref 109] M v M' 0 0 := Ev.back 1 (fun n => rfl) H
    obtain ⟨b4, H⟩ := Ev.aal rfl rfl hS.1 qa_109 qz_27 H
    have H : Ev none e 86 50 [some (.ref 0), some (.int x), some (.int y), none] [.ref (oI M 109 x)] M v M' 0 0 := H
    have H : Ev none e 86 52 [some (.ref 0), some (.int x), some (.int y), some (.ref (oI M 109 x))] [.ref 0] M v M' 0 0 := Ev.back 2 (fun n => rfl) H
    have H : Ev none e 86 55 [some (.ref 0), some (.int x), some (.int y), some (.ref (oI M 109 x))] [.ref 104] M v M' 0 0 := Ev.back 1 (gs_3 rfl rfl (gf_u hS.1 qa_0 qr_0_3 qu_22 rfl)) H
    have H : Ev none e 86 58 [some (.ref 0), some (.int x), some (.int y), some (.ref (oI M 109 x))] [.ref 109] M v M' 0 0 := Ev.back 1 (gs_3 rfl rfl (gf_u hS.1 qa_104 qr_22_1 qu_27 rfl)) H
    have H : Ev none e 86 60 [some (.ref 0), some (.int x), some (.int y), some (.ref (oI M 109 x))] [.ref 0, .int x, .ref 109] M v M' 0 0 := Ev.back 2 (fun n => rfl) H
    have H : Ev none e 86 63 [some (.ref 0), some (.int x), some (.int y), some (.ref (oI M 109 x))] [.ref 104, .int x, .ref 109] M v M' 0 0 := Ev.back 1 (gs_3 rfl rfl (gf_u hS.1 qa_0 qr_0_3 qu_22 rfl)) H
    have H : Ev none e 86 66 [some (.ref 0), some (.int x), some (.int y), some (.ref (oI M 109 x))] [.ref (fR M 104 3), .int x, .ref 109] M v M' 0 0 := Ev.back 1 (gs_3 rfl rfl (gf_r hS.1 qa_104 qr_22_3 rfl)) H
    obtain ⟨b5, H⟩ := Ev.aas rfl rfl hS.1 qa_109 qz_27 H
    obtain ⟨N6, eN6⟩ : ∃ N, N = (wO M 109 x.toNatClampNeg (fR M 104 3)) := ⟨_, rfl⟩
    have hN6 : SQ N6 := by rw [eN6]; exact hS.ko qa_109 qz_27 (hS.1.fr qa_104 qr_22_3).2
    have H : Ev none e 86 67 [some (.ref 0), some (.int x), some (.int y), some (.ref (oI M 109 x))] [] N6 v M' 0 0 := by rw [eN6]; exact H
    have H : Ev none e 86 68 [some (.ref 0), some (.int x), some (.int y), some (.ref (oI M 109 x))] [.ref 0] N6 v M' 0 0 := Ev.back 1 (fun n => rfl) H
    have H : Ev none e 86 71 [some (.ref 0), some (.int x), some (.int y), some (.ref (oI M 109 x))] [.ref 104] N6 v M' 0 0 := Ev.back 1 (gs_3 rfl rfl (gf_u hN6.1 qa_0 qr_0_3 qu_22 rfl)) H
    have H : Ev none e 86 72 [some (.ref 0), some (.int x), some (.int y), some (.ref (oI M 109 x))] [.ref (oI M 109 x), .ref 104] N6 v M' 0 0 := Ev.back 1 (fun n => rfl) H
    obtain ⟨N8, eN8⟩ : ∃ N, N = (wR N6 104 3 (oI M 109 x)) := ⟨_, rfl⟩
    have hN8 : SQ N8 := by rw [eN8]; exact hN6.kr_22_3 b4.2
    have H : Ev none e 86 75 [some (.ref 0), some (.int x), some (.int y), some (.ref (oI M 109 x))] [] N8 v M' 0 0 := by rw [eN8]; exact Ev.pfr rfl rfl rfl hN6.1 qa_104 qo_22 H
    have H : Ev none e 86 78 [some (.ref 0), some (.int x), some (.int y), some (.ref (oI M 109 x))] [.ref 0, .int y, .ref 0] N8 v M' 0 0 := Ev.back 3 (fun n => rfl) H
    have H : Ev none e 86 81 [some (.ref 0), some (.int x), some (.int y), some (.ref (oI M 109 x))] [.ref 104, .int y, .ref 0] N8 v M' 0 0 := Ev.back 1 (gs_3 rfl rfl (gf_u hN8.1 qa_0 qr_0_3 qu_22 rfl)) H
    have H : Ev none e 86 84 [some (.ref 0), some (.int x), some (.int y), some (.ref (oI M 109 x))] [.ref 109, .int y, .ref 0] N8 v M' 0 0 := Ev.back 1 (gs_3 rfl rfl (gf_u hN8.1 qa_104 qr_22_1 qu_27 rfl)) H
    have H : Ev none e 86 85 [some (.ref 0), some (.int x), some (.int y), some (.ref (oI M 109 x))] [.int x, .ref 109, .int y, .ref 0] N8 v M' 0 0 := Ev.back 1 (fun n => rfl) H
    obtain ⟨b9, H⟩ := Ev.aal rfl rfl hN8.1 qa_109 qz_27 H
    have H : Ev none e 86 86 [some (.ref 0), some (.int x), some (.int y), some (.ref (oI M 109 x))] [.ref (oI N8 109 x), .int y, .ref 0] N8 v M' 0 0 := H
    obtain ⟨e1, rfl⟩ := Ev.dpos rfl rfl H
    obtain ⟨vK10, MK10, K10, H⟩ := Ev.callb (fun n => gs_7 rfl rfl (show gCal (.invokevirtual 137) 10 (.ref (oI N8 109 x) :: .int y :: .ref 0 :: []) N8 = some (.inr (87, [some (.ref 0), some (.int y), some (.ref (oI N8 109 x))], [])) from by show @cond (Option ((List Value × Mem) ⊕ (Nat × Lo × List Value))) (true && gRecv N8 (.ref 0) 10 && gRoom [] && true) (some (.inr (87, [some (.ref 0), some (.int y), some (.ref (oI N8 109 x))], []))) none = _; rw [recv_s hN8.1 qa_0 qo_0]; rfl)) H
    have K10 : Ev none e1 87 0 [some (.ref 0), some (.int y), some (.ref (oI N8 109 x))] [] N8 vK10 MK10 0 0 := K10
    have HF := H
    subst eN6 eN8
    exact Or.inr (⟨h1, b4.1, b5, b9.1, ⟨e1, vK10, MK10, rfl, K10, HF⟩⟩)
theorem hb_89 {e : Nat} {M M' : Mem} {v : Option Value} {x y z : Int32} {c2 : Option Value} (hS : SQ M) (H : Ev none e 86 89 [some (.ref 0), some (.int x), some (.int y), c2] [.int z] M v M' 0 0) : v = some (.int z) ∧ M' = M := by
  obtain ⟨z1, z2⟩ := Ev.retz rfl rfl H
  exact ⟨z1, z2⟩
theorem flt_0 {e : Nat} {M M' : Mem} {v : Option Value} (hS : SQ M) (H : Ev none e 88 0 [some (.ref 0)] [] M v M' 0 0) : v = some (.int (zI M 0 15)) ∧ M' = M := by
  have H : Ev none e 88 1 [some (.ref 0)] [.ref 0] M v M' 0 0 := Ev.back 1 (fun n => rfl) H
  have H : Ev none e 88 4 [some (.ref 0)] [.int (zI M 0 15)] M v M' 0 0 := Ev.back 1 (gs_3 rfl rfl (gf_i hS.1 qa_0 qi_0_15 rfl)) H
  obtain ⟨z1, z2⟩ := Ev.retz rfl rfl H
  exact ⟨z1, z2⟩
/-! THE CLASS'S habit -/
section HABC
variable {n : Nat} {B : Nat → Int32} {M M' : Mem}
theorem g126 {x : Int32} : G_126 M x 0 5 = 0 ↔ ¬ (0 ≤ x.toInt ∧ x.toInt ≤ 5) := by
  have z0 : (0 : Int32).toInt = 0 := rfl
  have z5 : (5 : Int32).toInt = 5 := rfl
  unfold G_126
  by_cases h1 : x < 0
  · rw [if_pos h1]
    rw [Int32.lt_iff_toInt_lt] at h1
    exact ⟨fun _ => by omega, fun _ => rfl⟩
  · rw [if_neg h1]
    rw [Int32.lt_iff_toInt_lt] at h1
    by_cases h2 : 5 < x
    · rw [if_pos h2]
      rw [Int32.lt_iff_toInt_lt] at h2
      exact ⟨fun _ => by omega, fun _ => rfl⟩
    · rw [if_neg h2]
      rw [Int32.lt_iff_toInt_lt] at h2
      exact ⟨fun q => absurd q (by decide), fun q => absurd (by omega) q⟩
theorem clp {x : Int32} (h : 0 ≤ x.toInt) : (x.toNatClampNeg : Int) = x.toInt := Int.toNat_of_nonneg h
theorem hab_out {e : Nat} {v : Option Value} {x : Int32} (hS : SQ M) (hx : ¬ (0 ≤ x.toInt ∧ x.toInt ≤ 5)) (H : Ev none e 86 0 [some (.ref 0), some (.int x), none, none] [] M v M' 0 0) : v = some (.int (-1000)) ∧ M' = wF M 1 1 0 := by
  rcases hb_0 hS H with ⟨_, h⟩ | ⟨q, _⟩
  · exact h
  · exact absurd (g126.mpr hx) q
theorem hab_ok {e : Nat} {v : Option Value} {x : Int32} (hS : SQ M) (hx : 0 ≤ x.toInt ∧ x.toInt ≤ 5) (hn : (zI M 1 1).toInt = (n : Int)) (hn2 : n ≤ 440) (hB : ∀ k, k < n → bC M k = B k) (H : Ev none (e + 3) 86 0 [some (.ref 0), some (.int x), none, none] [] M v M' 0 0) : (∃ x, v = some (.int x) ∧ x.toInt = ansB (rdB B n false ((prS B e).1 1))) ∧ SQ M' ∧ (∀ a k, (a, k) ∉ fRe (fR M 104 3) → fV M' a k = fV M a k) ∧ (∀ b, b ∉ wTx (fR M 104 3) → zrw M' b = zrw M b) ∧ (∀ b, b ≠ 109 → roL M' b = roL M b) ∧ zI M' 1 1 = 0 ∧ zI M' 0 15 = fltB (rdB B n false ((prS B e).1 1)) ∧ fR M' 104 2 = fR M 104 2 ∧ (match rdB B n false ((prS B e).1 1) with
    | .inr _ => roL M' 109 = roL M 109 ∧ fR M' 104 3 = fR M 104 3
    | .inl q => roL M' 109 = gPut (roL M 109) x.toNatClampNeg (some (fR M 104 3)) ∧ fR M' 104 3 = oI M 109 x ∧ TXT M' (fR M 104 3) q) := by
  obtain ⟨t3, t2⟩ := tN hS
  rcases hb_0 hS H with ⟨q, _⟩ | ⟨_, e1, v1, M1, he, H1, H⟩
  · exact absurd (g126.mp q) (by omega)
  obtain ⟨rfl⟩ : e + 2 = e1 := by omega
  obtain ⟨f1, R⟩ := rt_ok (law := false) hS t3 hn hn2 hB H1
  obtain ⟨sp, hsp⟩ : ∃ sp, sp = fR M 104 3 := ⟨_, rfl⟩
  rw [← hsp] at t3 f1 R ⊢
  have hb := tx_ge t3
  have f1r := f1.re
  have h109 : gNth sT 109 = some 27 := qa_109
  cases hr : rdB B n false ((prS B e).1 1) with
  | inr f =>
    rw [hr] at R
    obtain ⟨rfl, s1, r1, r2⟩ := R
    rcases hb_36 s1 H with ⟨_, b1, e2, v2, M2, he2, H2, H⟩ | ⟨q, _⟩
    · have tx : gNth sT (oI M1 109 x) = some 28 := ((s1.1.ror qa_109 qz_27).2.2 x.toNatClampNeg (by have := clp hx.1; omega)).2
      obtain ⟨⟨y, rfl, hy⟩, s2, f2, z1, z2⟩ := re_no s1 tx r1 r2 H2
      obtain ⟨rfl, rfl⟩ := hb_89 s2 H
      have f3 : FA (fRe sp) (wTx sp) M M' := f1r.trans (f2.more (fun q hq => by
        simp only [List.mem_cons, List.not_mem_nil, or_false] at hq
        rcases hq with rfl | rfl <;> simp [fRe]) (fun q hq => by cases hq))
      refine ⟨⟨y, rfl, hy⟩, s2, f3.1, f3.2.1, fun b _ => f3.2.2 b, z1, z2, ?_, f3.2.2 109, ?_⟩
      · rw [f2.fr (by decide), f1.fr (by simp [fTx])]
      · rw [f2.fr (by decide), f1.fr (by simp [fTx])]
        exact hsp.symm
    · exact absurd rfl q
  | inl q =>
    rw [hr] at R
    obtain ⟨rfl, C1⟩ := R
    have s1 := C1.1.1
    rcases hb_36 s1 H with ⟨q, _⟩ | ⟨_, b1, _, _, e2, v2, M2, he2, H2, H⟩
    · exact absurd q (by decide)
    · obtain ⟨t13, t12⟩ := tN s1
      have hlt : x.toNatClampNeg < 6 := by have := clp hx.1; omega
      have tx : gNth sT (oI M1 109 x) = some 28 := ((s1.1.ror qa_109 qz_27).2.2 x.toNatClampNeg hlt).2
      have r3 : fR M1 104 3 = sp := (f1.fr (by simp [fTx])).trans hsp.symm
      have o1 : oI M1 109 x = oI M 109 x := f1.on
      rw [r3] at H2 t13
      have s1b : SQ (wO M1 109 x.toNatClampNeg sp) := s1.ko qa_109 qz_27 t13
      have s2 : SQ (wR (wO M1 109 x.toNatClampNeg sp) 104 3 (oI M1 109 x)) := s1b.kr_22_3 tx
      have e2 : oI (wR (wO M1 109 x.toNatClampNeg sp) 104 3 (oI M1 109 x)) 109 x = sp := by
        show oN _ 109 _ = _
        rw [show oN (wR (wO M1 109 x.toNatClampNeg sp) 104 3 (oI M1 109 x)) 109 x.toNatClampNeg = oN (wO M1 109 x.toNatClampNeg sp) 109 x.toNatClampNeg from by unfold oN; rw [roL_wR]]
        exact oN_wO_eq s1.1 qa_109 qz_27 hlt
      have h9 : zI M1 3 12 = 0 := C1.1.2.2.2.2.2.2.2.2
      rw [e2] at H2
      obtain ⟨rfl, s3, f3, z1, z2⟩ := re_yes s2 t3 H2
      obtain ⟨rfl, rfl⟩ := hb_89 s3 H
      have g2 : ∀ a k, (a, k) ≠ (104, 3) → fV (wR (wO M1 109 x.toNatClampNeg sp) 104 3 (oI M1 109 x)) a k = fV M1 a k := fun a k h => by
        rw [fV_wR_ne (fun q => h (by rw [q.1, q.2])), fV_wO]
      have gI : ∀ a k, (a, k) ≠ (104, 3) → zI (wR (wO M1 109 x.toNatClampNeg sp) 104 3 (oI M1 109 x)) a k = zI M1 a k := fun a k h => by
        unfold zI
        rw [g2 a k h]
      have gW : ∀ b, zrw (wR (wO M1 109 x.toNatClampNeg sp) 104 3 (oI M1 109 x)) b = zrw M1 b := fun b => by
        rw [rwL_wR, rwL_wO]
      refine ⟨⟨_, rfl, ?_⟩, s3, fun a k h => ?_, fun b h => ?_, fun b h => ?_, z1, ?_, ?_, ?_, ?_, ?_⟩
      · rw [gI _ _ (fun q => by injection q; omega)]
        exact C1.2.1.1
      · have h' := h
        rw [f3.1 a k (fun q => h' (by
          simp only [List.mem_cons, List.not_mem_nil, or_false] at q
          rcases q with q | q <;> rw [q] <;> simp [fRe])), g2 a k (fun q => h' (by rw [q]; simp [fRe])), f1r.1 a k h]
      · rw [f3.2.1 b (fun q => by cases q), gW, f1.2.1 b h]
      · rw [f3.2.2, roL_wR, roL_wO_ne h, f1.2.2]
      · rw [z2, gI _ _ (by decide), h9]
        rfl
      · rw [f3.fr (by decide), fR_wR_ne (by decide), fR_wO, f1.fr (by simp [fTx])]
      · rw [f3.2.2, roL_wR, roL_wO_eq s1.1 qa_109 qz_27, f1.2.2]
      · rw [f3.fr (by decide), fR_wR_eq s1b.1 qa_104 qk_22_3]
        exact o1
      · have f2' : FA [(104, 3)] [] M1 (wR M1 104 3 (oI M1 109 x)) := FA.wR (by simp)
        have T1 : TXT M1 sp q := ⟨C1.2.1, C1.1.2.2.2.2.2.2.1, C1.2.2.1, C1.2.2.2.1, C1.2.2.2.2.1, C1.2.2.2.2.2.1⟩
        have T2 : TXT (wR (wO M1 109 x.toNatClampNeg sp) 104 3 (oI M1 109 x)) sp q := by
          have hR : ∀ b j, rN (wR (wO M1 109 x.toNatClampNeg sp) 104 3 (oI M1 109 x)) b j = rN M1 b j := fun b j => by
            unfold rN
            rw [gW]
          have hI : ∀ k, zI (wR (wO M1 109 x.toNatClampNeg sp) 104 3 (oI M1 109 x)) sp k = zI M1 sp k := fun k => gI sp k (fun q => by injection q; omega)
          obtain ⟨⟨u1, u2, u3⟩, ⟨w1, w2, w3⟩, x1, x2, x3, x4⟩ := T1
          refine ⟨⟨by rw [hI]; exact u1, u2, fun j l hj => ?_⟩, ⟨by rw [hI]; exact w1, w2, fun j c hj => ?_⟩, by rw [hI]; exact x1, by rw [hI]; exact x2, by rw [hI]; exact x3, by rw [hI]; exact x4⟩
          · rw [hR, hR, hR, hR, hR]
            exact u3 j l hj
          · rw [hR, hR, hR]
            exact w3 j c hj
        exact T2.frm f3 (fun k _ _ => by simp; omega) (fun b _ _ => by simp)
end HABC
/-! THE REFERENCE'S READER: pieces of read, line, text, law, habit (made by gre.py) -/
noncomputable def G_168 (M : Mem) (l : Int32) : Int32 := if (zI M 633 22) = 1 then (if l = 0 then (if (lg_cmp (fL M 633 31) 512802514792) = 0 then 5 else (if (lg_cmp (fL M 633 31) 474148660594) = 0 then 6 else (if (lg_cmp (fL M 633 31) 495689623668) = 0 then 7 else (-1)))) else (if (lg_cmp (fL M 633 31) 2003132786) = 0 then 0 else (if (lg_cmp (fL M 633 31) 1735552887) = 0 then 1 else (if (lg_cmp (fL M 633 31) 1818848869) = 0 then 2 else (if (lg_cmp (fL M 633 31) 7173476) = 0 then 3 else (if (lg_cmp (fL M 633 31) 6582905) = 0 then 4 else (-1))))))) else (-1)
theorem g_168 {e : Nat} {M M' : Mem} {v : Option Value} {l : Int32} (hS : SQ M) (H : Ev none e 168 0 [some (.ref 633), some (.int l)] [] M v M' 0 0) : v = some (.int (G_168 M l)) ∧ M' = M := by
  unfold G_168
  have H : Ev none e 168 1 [some (.ref 633), some (.int l)] [.ref 633] M v M' 0 0 := Ev.back 1 (fun n => rfl) H
  have H : Ev none e 168 4 [some (.ref 633), some (.int l)] [.int (zI M 633 22)] M v M' 0 0 := Ev.back 1 (gs_3 rfl rfl (gf_i hS.1 qa_633 qi_61_22 rfl)) H
  have H : Ev none e 168 (if (zI M 633 22) = 1 then 10 else 8) [some (.ref 633), some (.int l)] [] M v M' 0 0 := Ev.back 2 (fun n => rfl) H
  by_cases h1 : (zI M 633 22) = 1
  · rw [if_pos h1] at H
    have H : Ev none e 168 (if l = 0 then 91 else 14) [some (.ref 633), some (.int l)] [] M v M' 0 0 := Ev.back 2 (fun n => rfl) H
    by_cases h2 : l = 0
    · rw [if_pos h2] at H
      have H : Ev none e 168 92 [some (.ref 633), some (.int l)] [.ref 633] M v M' 0 0 := Ev.back 1 (fun n => rfl) H
      have H : Ev none e 168 95 [some (.ref 633), some (.int l)] [.long (fL M 633 31)] M v M' 0 0 := Ev.back 1 (gs_3 rfl rfl (gf_l hS.1 qa_633 ql_61_31 rfl)) H
      have H : Ev none e 168 (if (lg_cmp (fL M 633 31) 512802514792) = 0 then 102 else 106) [some (.ref 633), some (.int l)] [] M v M' 0 0 := Ev.back 3 (fun n => rfl) H
      by_cases h3 : (lg_cmp (fL M 633 31) 512802514792) = 0
      · rw [if_pos h3] at H
        have H : Ev none e 168 139 [some (.ref 633), some (.int l)] [.int 5] M v M' 0 0 := Ev.back 2 (fun n => rfl) H
        obtain ⟨p1, p2⟩ := Ev.retz rfl rfl H
        exact ⟨by rw [if_pos h1, if_pos h2, if_pos h3]; exact p1, p2⟩
      · rw [if_neg h3] at H
        have H : Ev none e 168 107 [some (.ref 633), some (.int l)] [.ref 633] M v M' 0 0 := Ev.back 1 (fun n => rfl) H
        have H : Ev none e 168 110 [some (.ref 633), some (.int l)] [.long (fL M 633 31)] M v M' 0 0 := Ev.back 1 (gs_3 rfl rfl (gf_l hS.1 qa_633 ql_61_31 rfl)) H
        have H : Ev none e 168 (if (lg_cmp (fL M 633 31) 474148660594) = 0 then 117 else 122) [some (.ref 633), some (.int l)] [] M v M' 0 0 := Ev.back 3 (fun n => rfl) H
        by_cases h4 : (lg_cmp (fL M 633 31) 474148660594) = 0
        · rw [if_pos h4] at H
          have H : Ev none e 168 139 [some (.ref 633), some (.int l)] [.int 6] M v M' 0 0 := Ev.back 2 (fun n => rfl) H
          obtain ⟨p1, p2⟩ := Ev.retz rfl rfl H
          exact ⟨by rw [if_pos h1, if_pos h2, if_neg h3, if_pos h4]; exact p1, p2⟩
        · rw [if_neg h4] at H
          have H : Ev none e 168 123 [some (.ref 633), some (.int l)] [.ref 633] M v M' 0 0 := Ev.back 1 (fun n => rfl) H
          have H : Ev none e 168 126 [some (.ref 633), some (.int l)] [.long (fL M 633 31)] M v M' 0 0 := Ev.back 1 (gs_3 rfl rfl (gf_l hS.1 qa_633 ql_61_31 rfl)) H
          have H : Ev none e 168 (if (lg_cmp (fL M 633 31) 495689623668) = 0 then 133 else 138) [some (.ref 633), some (.int l)] [] M v M' 0 0 := Ev.back 3 (fun n => rfl) H
          by_cases h5 : (lg_cmp (fL M 633 31) 495689623668) = 0
          · rw [if_pos h5] at H
            have H : Ev none e 168 139 [some (.ref 633), some (.int l)] [.int 7] M v M' 0 0 := Ev.back 2 (fun n => rfl) H
            obtain ⟨p1, p2⟩ := Ev.retz rfl rfl H
            exact ⟨by rw [if_pos h1, if_pos h2, if_neg h3, if_neg h4, if_pos h5]; exact p1, p2⟩
          · rw [if_neg h5] at H
            have H : Ev none e 168 139 [some (.ref 633), some (.int l)] [.int (-1)] M v M' 0 0 := Ev.back 1 (fun n => rfl) H
            obtain ⟨p1, p2⟩ := Ev.retz rfl rfl H
            exact ⟨by rw [if_pos h1, if_pos h2, if_neg h3, if_neg h4, if_neg h5]; exact p1, p2⟩
    · rw [if_neg h2] at H
      have H : Ev none e 168 15 [some (.ref 633), some (.int l)] [.ref 633] M v M' 0 0 := Ev.back 1 (fun n => rfl) H
      have H : Ev none e 168 18 [some (.ref 633), some (.int l)] [.long (fL M 633 31)] M v M' 0 0 := Ev.back 1 (gs_3 rfl rfl (gf_l hS.1 qa_633 ql_61_31 rfl)) H
      have H : Ev none e 168 (if (lg_cmp (fL M 633 31) 2003132786) = 0 then 25 else 29) [some (.ref 633), some (.int l)] [] M v M' 0 0 := Ev.back 3 (fun n => rfl) H
      by_cases h6 : (lg_cmp (fL M 633 31) 2003132786) = 0
      · rw [if_pos h6] at H
        have H : Ev none e 168 90 [some (.ref 633), some (.int l)] [.int 0] M v M' 0 0 := Ev.back 2 (fun n => rfl) H
        obtain ⟨p1, p2⟩ := Ev.retz rfl rfl H
        exact ⟨by rw [if_pos h1, if_neg h2, if_pos h6]; exact p1, p2⟩
      · rw [if_neg h6] at H
        have H : Ev none e 168 30 [some (.ref 633), some (.int l)] [.ref 633] M v M' 0 0 := Ev.back 1 (fun n => rfl) H
        have H : Ev none e 168 33 [some (.ref 633), some (.int l)] [.long (fL M 633 31)] M v M' 0 0 := Ev.back 1 (gs_3 rfl rfl (gf_l hS.1 qa_633 ql_61_31 rfl)) H
        have H : Ev none e 168 (if (lg_cmp (fL M 633 31) 1735552887) = 0 then 40 else 44) [some (.ref 633), some (.int l)] [] M v M' 0 0 := Ev.back 3 (fun n => rfl) H
        by_cases h7 : (lg_cmp (fL M 633 31) 1735552887) = 0
        · rw [if_pos h7] at H
          have H : Ev none e 168 90 [some (.ref 633), some (.int l)] [.int 1] M v M' 0 0 := Ev.back 2 (fun n => rfl) H
          obtain ⟨p1, p2⟩ := Ev.retz rfl rfl H
          exact ⟨by rw [if_pos h1, if_neg h2, if_neg h6, if_pos h7]; exact p1, p2⟩
        · rw [if_neg h7] at H
          have H : Ev none e 168 45 [some (.ref 633), some (.int l)] [.ref 633] M v M' 0 0 := Ev.back 1 (fun n => rfl) H
          have H : Ev none e 168 48 [some (.ref 633), some (.int l)] [.long (fL M 633 31)] M v M' 0 0 := Ev.back 1 (gs_3 rfl rfl (gf_l hS.1 qa_633 ql_61_31 rfl)) H
          have H : Ev none e 168 (if (lg_cmp (fL M 633 31) 1818848869) = 0 then 55 else 59) [some (.ref 633), some (.int l)] [] M v M' 0 0 := Ev.back 3 (fun n => rfl) H
          by_cases h8 : (lg_cmp (fL M 633 31) 1818848869) = 0
          · rw [if_pos h8] at H
            have H : Ev none e 168 90 [some (.ref 633), some (.int l)] [.int 2] M v M' 0 0 := Ev.back 2 (fun n => rfl) H
            obtain ⟨p1, p2⟩ := Ev.retz rfl rfl H
            exact ⟨by rw [if_pos h1, if_neg h2, if_neg h6, if_neg h7, if_pos h8]; exact p1, p2⟩
          · rw [if_neg h8] at H
            have H : Ev none e 168 60 [some (.ref 633), some (.int l)] [.ref 633] M v M' 0 0 := Ev.back 1 (fun n => rfl) H
            have H : Ev none e 168 63 [some (.ref 633), some (.int l)] [.long (fL M 633 31)] M v M' 0 0 := Ev.back 1 (gs_3 rfl rfl (gf_l hS.1 qa_633 ql_61_31 rfl)) H
            have H : Ev none e 168 (if (lg_cmp (fL M 633 31) 7173476) = 0 then 70 else 74) [some (.ref 633), some (.int l)] [] M v M' 0 0 := Ev.back 3 (fun n => rfl) H
            by_cases h9 : (lg_cmp (fL M 633 31) 7173476) = 0
            · rw [if_pos h9] at H
              have H : Ev none e 168 90 [some (.ref 633), some (.int l)] [.int 3] M v M' 0 0 := Ev.back 2 (fun n => rfl) H
              obtain ⟨p1, p2⟩ := Ev.retz rfl rfl H
              exact ⟨by rw [if_pos h1, if_neg h2, if_neg h6, if_neg h7, if_neg h8, if_pos h9]; exact p1, p2⟩
            · rw [if_neg h9] at H
              have H : Ev none e 168 75 [some (.ref 633), some (.int l)] [.ref 633] M v M' 0 0 := Ev.back 1 (fun n => rfl) H
              have H : Ev none e 168 78 [some (.ref 633), some (.int l)] [.long (fL M 633 31)] M v M' 0 0 := Ev.back 1 (gs_3 rfl rfl (gf_l hS.1 qa_633 ql_61_31 rfl)) H
              have H : Ev none e 168 (if (lg_cmp (fL M 633 31) 6582905) = 0 then 85 else 89) [some (.ref 633), some (.int l)] [] M v M' 0 0 := Ev.back 3 (fun n => rfl) H
              by_cases h10 : (lg_cmp (fL M 633 31) 6582905) = 0
              · rw [if_pos h10] at H
                have H : Ev none e 168 90 [some (.ref 633), some (.int l)] [.int 4] M v M' 0 0 := Ev.back 2 (fun n => rfl) H
                obtain ⟨p1, p2⟩ := Ev.retz rfl rfl H
                exact ⟨by rw [if_pos h1, if_neg h2, if_neg h6, if_neg h7, if_neg h8, if_neg h9, if_pos h10]; exact p1, p2⟩
              · rw [if_neg h10] at H
                have H : Ev none e 168 90 [some (.ref 633), some (.int l)] [.int (-1)] M v M' 0 0 := Ev.back 1 (fun n => rfl) H
                obtain ⟨p1, p2⟩ := Ev.retz rfl rfl H
                exact ⟨by rw [if_pos h1, if_neg h2, if_neg h6, if_neg h7, if_neg h8, if_neg h9, if_neg h10]; exact p1, p2⟩
  · rw [if_neg h1] at H
    have H : Ev none e 168 9 [some (.ref 633), some (.int l)] [.int (-1)] M v M' 0 0 := Ev.back 1 (fun n => rfl) H
    obtain ⟨p1, p2⟩ := Ev.retz rfl rfl H
    exact ⟨by rw [if_neg h1]; exact p1, p2⟩
noncomputable def G_171 (M : Mem) : Int32 := if (zI M 633 22) = 1 then (if (lg_cmp (fL M 633 31) 444300879214) = 0 then 0 else (if (lg_cmp (fL M 633 31) 7824756) = 0 then 1 else (if (lg_cmp (fL M 633 31) 427020610914) = 0 then 2 else (if (lg_cmp (fL M 633 31) 427121669988) = 0 then 3 else (if (lg_cmp (fL M 633 31) 1953854062) = 0 then 4 else (if (lg_cmp (fL M 633 31) 1668246885) = 0 then 5 else (if (lg_cmp (fL M 633 31) 1818848869) = 0 then 6 else (-1)))))))) else (-1)
theorem g_171 {e : Nat} {M M' : Mem} {v : Option Value} (hS : SQ M) (H : Ev none e 171 0 [some (.ref 633)] [] M v M' 0 0) : v = some (.int (G_171 M)) ∧ M' = M := by
  unfold G_171
  have H : Ev none e 171 1 [some (.ref 633)] [.ref 633] M v M' 0 0 := Ev.back 1 (fun n => rfl) H
  have H : Ev none e 171 4 [some (.ref 633)] [.int (zI M 633 22)] M v M' 0 0 := Ev.back 1 (gs_3 rfl rfl (gf_i hS.1 qa_633 qi_61_22 rfl)) H
  have H : Ev none e 171 (if (zI M 633 22) = 1 then 10 else 8) [some (.ref 633)] [] M v M' 0 0 := Ev.back 2 (fun n => rfl) H
  by_cases h1 : (zI M 633 22) = 1
  · rw [if_pos h1] at H
    have H : Ev none e 171 11 [some (.ref 633)] [.ref 633] M v M' 0 0 := Ev.back 1 (fun n => rfl) H
    have H : Ev none e 171 14 [some (.ref 633)] [.long (fL M 633 31)] M v M' 0 0 := Ev.back 1 (gs_3 rfl rfl (gf_l hS.1 qa_633 ql_61_31 rfl)) H
    have H : Ev none e 171 (if (lg_cmp (fL M 633 31) 444300879214) = 0 then 21 else 25) [some (.ref 633)] [] M v M' 0 0 := Ev.back 3 (fun n => rfl) H
    by_cases h2 : (lg_cmp (fL M 633 31) 444300879214) = 0
    · rw [if_pos h2] at H
      have H : Ev none e 171 117 [some (.ref 633)] [.int 0] M v M' 0 0 := Ev.back 2 (fun n => rfl) H
      obtain ⟨p1, p2⟩ := Ev.retz rfl rfl H
      exact ⟨by rw [if_pos h1, if_pos h2]; exact p1, p2⟩
    · rw [if_neg h2] at H
      have H : Ev none e 171 26 [some (.ref 633)] [.ref 633] M v M' 0 0 := Ev.back 1 (fun n => rfl) H
      have H : Ev none e 171 29 [some (.ref 633)] [.long (fL M 633 31)] M v M' 0 0 := Ev.back 1 (gs_3 rfl rfl (gf_l hS.1 qa_633 ql_61_31 rfl)) H
      have H : Ev none e 171 (if (lg_cmp (fL M 633 31) 7824756) = 0 then 36 else 40) [some (.ref 633)] [] M v M' 0 0 := Ev.back 3 (fun n => rfl) H
      by_cases h3 : (lg_cmp (fL M 633 31) 7824756) = 0
      · rw [if_pos h3] at H
        have H : Ev none e 171 117 [some (.ref 633)] [.int 1] M v M' 0 0 := Ev.back 2 (fun n => rfl) H
        obtain ⟨p1, p2⟩ := Ev.retz rfl rfl H
        exact ⟨by rw [if_pos h1, if_neg h2, if_pos h3]; exact p1, p2⟩
      · rw [if_neg h3] at H
        have H : Ev none e 171 41 [some (.ref 633)] [.ref 633] M v M' 0 0 := Ev.back 1 (fun n => rfl) H
        have H : Ev none e 171 44 [some (.ref 633)] [.long (fL M 633 31)] M v M' 0 0 := Ev.back 1 (gs_3 rfl rfl (gf_l hS.1 qa_633 ql_61_31 rfl)) H
        have H : Ev none e 171 (if (lg_cmp (fL M 633 31) 427020610914) = 0 then 51 else 55) [some (.ref 633)] [] M v M' 0 0 := Ev.back 3 (fun n => rfl) H
        by_cases h4 : (lg_cmp (fL M 633 31) 427020610914) = 0
        · rw [if_pos h4] at H
          have H : Ev none e 171 117 [some (.ref 633)] [.int 2] M v M' 0 0 := Ev.back 2 (fun n => rfl) H
          obtain ⟨p1, p2⟩ := Ev.retz rfl rfl H
          exact ⟨by rw [if_pos h1, if_neg h2, if_neg h3, if_pos h4]; exact p1, p2⟩
        · rw [if_neg h4] at H
          have H : Ev none e 171 56 [some (.ref 633)] [.ref 633] M v M' 0 0 := Ev.back 1 (fun n => rfl) H
          have H : Ev none e 171 59 [some (.ref 633)] [.long (fL M 633 31)] M v M' 0 0 := Ev.back 1 (gs_3 rfl rfl (gf_l hS.1 qa_633 ql_61_31 rfl)) H
          have H : Ev none e 171 (if (lg_cmp (fL M 633 31) 427121669988) = 0 then 66 else 70) [some (.ref 633)] [] M v M' 0 0 := Ev.back 3 (fun n => rfl) H
          by_cases h5 : (lg_cmp (fL M 633 31) 427121669988) = 0
          · rw [if_pos h5] at H
            have H : Ev none e 171 117 [some (.ref 633)] [.int 3] M v M' 0 0 := Ev.back 2 (fun n => rfl) H
            obtain ⟨p1, p2⟩ := Ev.retz rfl rfl H
            exact ⟨by rw [if_pos h1, if_neg h2, if_neg h3, if_neg h4, if_pos h5]; exact p1, p2⟩
          · rw [if_neg h5] at H
            have H : Ev none e 171 71 [some (.ref 633)] [.ref 633] M v M' 0 0 := Ev.back 1 (fun n => rfl) H
            have H : Ev none e 171 74 [some (.ref 633)] [.long (fL M 633 31)] M v M' 0 0 := Ev.back 1 (gs_3 rfl rfl (gf_l hS.1 qa_633 ql_61_31 rfl)) H
            have H : Ev none e 171 (if (lg_cmp (fL M 633 31) 1953854062) = 0 then 81 else 85) [some (.ref 633)] [] M v M' 0 0 := Ev.back 3 (fun n => rfl) H
            by_cases h6 : (lg_cmp (fL M 633 31) 1953854062) = 0
            · rw [if_pos h6] at H
              have H : Ev none e 171 117 [some (.ref 633)] [.int 4] M v M' 0 0 := Ev.back 2 (fun n => rfl) H
              obtain ⟨p1, p2⟩ := Ev.retz rfl rfl H
              exact ⟨by rw [if_pos h1, if_neg h2, if_neg h3, if_neg h4, if_neg h5, if_pos h6]; exact p1, p2⟩
            · rw [if_neg h6] at H
              have H : Ev none e 171 86 [some (.ref 633)] [.ref 633] M v M' 0 0 := Ev.back 1 (fun n => rfl) H
              have H : Ev none e 171 89 [some (.ref 633)] [.long (fL M 633 31)] M v M' 0 0 := Ev.back 1 (gs_3 rfl rfl (gf_l hS.1 qa_633 ql_61_31 rfl)) H
              have H : Ev none e 171 (if (lg_cmp (fL M 633 31) 1668246885) = 0 then 96 else 100) [some (.ref 633)] [] M v M' 0 0 := Ev.back 3 (fun n => rfl) H
              by_cases h7 : (lg_cmp (fL M 633 31) 1668246885) = 0
              · rw [if_pos h7] at H
                have H : Ev none e 171 117 [some (.ref 633)] [.int 5] M v M' 0 0 := Ev.back 2 (fun n => rfl) H
                obtain ⟨p1, p2⟩ := Ev.retz rfl rfl H
                exact ⟨by rw [if_pos h1, if_neg h2, if_neg h3, if_neg h4, if_neg h5, if_neg h6, if_pos h7]; exact p1, p2⟩
              · rw [if_neg h7] at H
                have H : Ev none e 171 101 [some (.ref 633)] [.ref 633] M v M' 0 0 := Ev.back 1 (fun n => rfl) H
                have H : Ev none e 171 104 [some (.ref 633)] [.long (fL M 633 31)] M v M' 0 0 := Ev.back 1 (gs_3 rfl rfl (gf_l hS.1 qa_633 ql_61_31 rfl)) H
                have H : Ev none e 171 (if (lg_cmp (fL M 633 31) 1818848869) = 0 then 111 else 116) [some (.ref 633)] [] M v M' 0 0 := Ev.back 3 (fun n => rfl) H
                by_cases h8 : (lg_cmp (fL M 633 31) 1818848869) = 0
                · rw [if_pos h8] at H
                  have H : Ev none e 171 117 [some (.ref 633)] [.int 6] M v M' 0 0 := Ev.back 2 (fun n => rfl) H
                  obtain ⟨p1, p2⟩ := Ev.retz rfl rfl H
                  exact ⟨by rw [if_pos h1, if_neg h2, if_neg h3, if_neg h4, if_neg h5, if_neg h6, if_neg h7, if_pos h8]; exact p1, p2⟩
                · rw [if_neg h8] at H
                  have H : Ev none e 171 117 [some (.ref 633)] [.int (-1)] M v M' 0 0 := Ev.back 1 (fun n => rfl) H
                  obtain ⟨p1, p2⟩ := Ev.retz rfl rfl H
                  exact ⟨by rw [if_pos h1, if_neg h2, if_neg h3, if_neg h4, if_neg h5, if_neg h6, if_neg h7, if_neg h8]; exact p1, p2⟩
  · rw [if_neg h1] at H
    have H : Ev none e 171 9 [some (.ref 633)] [.int (-1)] M v M' 0 0 := Ev.back 1 (fun n => rfl) H
    obtain ⟨p1, p2⟩ := Ev.retz rfl rfl H
    exact ⟨by rw [if_neg h1]; exact p1, p2⟩
noncomputable def X_139 (M : Mem) : Mem := (wF (wF (wF M 633 3 (zI M 633 2)) 633 2 0) 633 4 0)
theorem g_139 {e : Nat} {M M' : Mem} {v : Option Value} (hS : SQ M) (H : Ev none e 139 0 [some (.ref 633)] [] M v M' 0 0) : v = none ∧ M' = X_139 M := by
  unfold X_139
  have H : Ev none e 139 2 [some (.ref 633)] [.ref 633, .ref 633] M v M' 0 0 := Ev.back 2 (fun n => rfl) H
  have H : Ev none e 139 5 [some (.ref 633)] [.int (zI M 633 2), .ref 633] M v M' 0 0 := Ev.back 1 (gs_3 rfl rfl (gf_i hS.1 qa_633 qi_61_2 rfl)) H
  obtain ⟨N2, eN2⟩ : ∃ N, N = (wF M 633 3 (zI M 633 2)) := ⟨_, rfl⟩
  have hN2 : SQ N2 := by rw [eN2]; exact hS.kf
  have H : Ev none e 139 8 [some (.ref 633)] [] N2 v M' 0 0 := by rw [eN2]; exact Ev.pfi rfl rfl rfl hS.1 qa_633 qi_61_3 H
  have H : Ev none e 139 10 [some (.ref 633)] [.int 0, .ref 633] N2 v M' 0 0 := Ev.back 2 (fun n => rfl) H
  obtain ⟨N4, eN4⟩ : ∃ N, N = (wF N2 633 2 0) := ⟨_, rfl⟩
  have hN4 : SQ N4 := by rw [eN4]; exact hN2.kf
  have H : Ev none e 139 13 [some (.ref 633)] [] N4 v M' 0 0 := by rw [eN4]; exact Ev.pfi rfl rfl rfl hN2.1 qa_633 qi_61_2 H
  have H : Ev none e 139 15 [some (.ref 633)] [.int 0, .ref 633] N4 v M' 0 0 := Ev.back 2 (fun n => rfl) H
  obtain ⟨N6, eN6⟩ : ∃ N, N = (wF N4 633 4 0) := ⟨_, rfl⟩
  have hN6 : SQ N6 := by rw [eN6]; exact hN4.kf
  have H : Ev none e 139 18 [some (.ref 633)] [] N6 v M' 0 0 := by rw [eN6]; exact Ev.pfi rfl rfl rfl hN4.1 qa_633 qi_61_4 H
  obtain ⟨p1, p2⟩ := Ev.retb (fun n => rfl) H
  subst eN2 eN4 eN6
  exact ⟨p1, p2⟩
theorem X_139_sx {M : Mem} (hS : SQ M) : SQ (X_139 M) := by
  unfold X_139
  exact ((hS.kf).kf).kf
noncomputable def A_185 (M : Mem) : Int32 := zI M 633 26
noncomputable def X_185 (M : Mem) : Mem := (wF M 633 0 0)
theorem g_185 {e : Nat} {M M' : Mem} {v : Option Value} (hS : SQ M) (H : Ev none e 185 0 [some (.ref 633)] [] M v M' 0 0) : v = some (.int (A_185 M)) ∧ M' = X_185 M := by
  unfold A_185 X_185
  have H : Ev none e 185 2 [some (.ref 633)] [.int 0, .ref 633] M v M' 0 0 := Ev.back 2 (fun n => rfl) H
  obtain ⟨N2, eN2⟩ : ∃ N, N = (wF M 633 0 0) := ⟨_, rfl⟩
  have hN2 : SQ N2 := by rw [eN2]; exact hS.kf
  have H : Ev none e 185 5 [some (.ref 633)] [] N2 v M' 0 0 := by rw [eN2]; exact Ev.pfi rfl rfl rfl hS.1 qa_633 qi_61_0 H
  have H : Ev none e 185 6 [some (.ref 633)] [.ref 633] N2 v M' 0 0 := Ev.back 1 (fun n => rfl) H
  have H : Ev none e 185 9 [some (.ref 633)] [.int (zI N2 633 26)] N2 v M' 0 0 := Ev.back 1 (gs_3 rfl rfl (gf_i hN2.1 qa_633 qi_61_26 rfl)) H
  rw [show zI N2 633 26 = zI M 633 26 from by rw [eN2]; exact fI_wF_ne (fun q => absurd q.2 (by decide))] at H
  obtain ⟨p1, p2⟩ := Ev.retz rfl rfl H
  subst eN2
  exact ⟨p1, p2⟩
theorem X_185_sx {M : Mem} (hS : SQ M) : SQ (X_185 M) := by
  unfold X_185
  exact hS.kf
theorem snq_0 {e : Nat} {M M' : Mem} {v : Option Value} (hS : SQ M) (H : Ev none e 166 0 [some (.ref 633), some (.int 59)] [] M v M' 0 0) : ((G_165 M 59) = 0 ∧ (∃ e1 v1 M1, e = e1 + 1 ∧ Ev none e1 163 0 [some (.ref 633), some (.int 1)] [] M v1 M1 0 0 ∧ Ev none e 166 13 [some (.ref 633), some (.int 59)] (v1.toList ++ []) M1 v M' 0 0)) ∨ (¬ ((G_165 M 59) = 0) ∧ (∃ e1 v1 M1, e = e1 + 1 ∧ Ev none e1 162 0 [some (.ref 633), none, none, none] [] M v1 M1 0 0 ∧ Ev none e 166 18 [some (.ref 633), some (.int 59)] (v1.toList ++ []) M1 v M' 0 0)) := by
  have H : Ev none e 166 2 [some (.ref 633), some (.int 59)] [.int 59, .ref 633] M v M' 0 0 := Ev.back 2 (fun n => rfl) H
  obtain ⟨e1, rfl⟩ := Ev.dpos rfl rfl H
  obtain ⟨vK1, MK1, K1, H⟩ := Ev.callb (fun n => gs_7 rfl rfl (show gCal (.invokevirtual 195) 11 (.int 59 :: .ref 633 :: []) M = some (.inr (165, [some (.ref 633), some (.int 59)], [])) from by show @cond (Option ((List Value × Mem) ⊕ (Nat × Lo × List Value))) (true && gRecv M (.ref 633) 11 && gRoom [] && true) (some (.inr (165, [some (.ref 633), some (.int 59)], []))) none = _; rw [recv_s hS.1 qa_633 qo_61]; rfl)) H
  obtain ⟨pK1, qK1⟩ := g_165 hS K1
  rw [pK1, qK1] at H
  have H : Ev none (e1 + 1) 166 5 [some (.ref 633), some (.int 59)] [.int (G_165 M 59)] M v M' 0 0 := H
  have H : Ev none (e1 + 1) 166 (if (G_165 M 59) = 0 then 8 else 14) [some (.ref 633), some (.int 59)] [] M v M' 0 0 := Ev.back 1 (fun n => rfl) H
  by_cases h2 : (G_165 M 59) = 0
  · rw [if_pos h2] at H
    have H : Ev none (e1 + 1) 166 10 [some (.ref 633), some (.int 59)] [.int 1, .ref 633] M v M' 0 0 := Ev.back 2 (fun n => rfl) H
    obtain ⟨vK3, MK3, K3, H⟩ := Ev.callb (fun n => gs_7 rfl rfl (show gCal (.invokevirtual 198) 11 (.int 1 :: .ref 633 :: []) M = some (.inr (163, [some (.ref 633), some (.int 1)], [])) from by show @cond (Option ((List Value × Mem) ⊕ (Nat × Lo × List Value))) (true && gRecv M (.ref 633) 11 && gRoom [] && true) (some (.inr (163, [some (.ref 633), some (.int 1)], []))) none = _; rw [recv_s hS.1 qa_633 qo_61]; rfl)) H
    have K3 : Ev none e1 163 0 [some (.ref 633), some (.int 1)] [] M vK3 MK3 0 0 := K3
    have HF := H
    exact Or.inl ⟨h2, ⟨e1, vK3, MK3, rfl, K3, HF⟩⟩
  · rw [if_neg h2] at H
    have H : Ev none (e1 + 1) 166 15 [some (.ref 633), some (.int 59)] [.ref 633] M v M' 0 0 := Ev.back 1 (fun n => rfl) H
    obtain ⟨vK4, MK4, K4, H⟩ := Ev.callb (fun n => gs_7 rfl rfl (show gCal (.invokevirtual 201) 11 (.ref 633 :: []) M = some (.inr (162, [some (.ref 633), none, none, none], [])) from by show @cond (Option ((List Value × Mem) ⊕ (Nat × Lo × List Value))) (true && gRecv M (.ref 633) 11 && gRoom [] && true) (some (.inr (162, [some (.ref 633), none, none, none], []))) none = _; rw [recv_s hS.1 qa_633 qo_61]; rfl)) H
    have K4 : Ev none e1 162 0 [some (.ref 633), none, none, none] [] M vK4 MK4 0 0 := K4
    have HF := H
    exact Or.inr (⟨h2, ⟨e1, vK4, MK4, rfl, K4, HF⟩⟩)
theorem snq_13 {e : Nat} {M M' : Mem} {v : Option Value} {y : Int32} {c1 : Option Value} (hS : SQ M) (H : Ev none e 166 13 [some (.ref 633), c1] [.int y] M v M' 0 0) : v = some (.int y) ∧ M' = M := by
  obtain ⟨z1, z2⟩ := Ev.retz rfl rfl H
  exact ⟨z1, z2⟩
theorem snq_18 {e : Nat} {M M' : Mem} {v : Option Value} {c1 : Option Value} (hS : SQ M) (H : Ev none e 166 18 [some (.ref 633), c1] [] M v M' 0 0) : v = some (.int 1) ∧ M' = M := by
  have H : Ev none e 166 19 [some (.ref 633), c1] [.int 1] M v M' 0 0 := Ev.back 1 (fun n => rfl) H
  obtain ⟨z1, z2⟩ := Ev.retz rfl rfl H
  exact ⟨z1, z2⟩
theorem tkq_0 {e : Nat} {M M' : Mem} {v : Option Value} {lo hi : Int32} (hS : SQ M) (H : Ev none e 167 0 [some (.ref 633), some (.int lo), some (.int hi)] [] M v M' 0 0) : ((zI M 633 22) = 2 ∧ (G_140 M (zI M 633 25) lo hi) = 0 ∧ (∃ e1 v1 M1, e = e1 + 1 ∧ Ev none e1 163 0 [some (.ref 633), some (.int 2)] [] M v1 M1 0 0 ∧ Ev none e 167 31 [some (.ref 633), some (.int lo), some (.int hi)] (v1.toList ++ []) M1 v M' 0 0)) ∨ ((zI M 633 22) = 2 ∧ ¬ ((G_140 M (zI M 633 25) lo hi) = 0) ∧ (∃ e1 v1 M1, e = e1 + 1 ∧ Ev none e1 162 0 [some (.ref 633), none, none, none] [] (wF M 633 32 (zI M 633 25)) v1 M1 0 0 ∧ Ev none e 167 44 [some (.ref 633), some (.int lo), some (.int hi)] (v1.toList ++ []) M1 v M' 0 0)) ∨ (¬ ((zI M 633 22) = 2) ∧ (∃ e1 v1 M1, e = e1 + 1 ∧ Ev none e1 163 0 [some (.ref 633), some (.int 1)] [] M v1 M1 0 0 ∧ Ev none e 167 13 [some (.ref 633), some (.int lo), some (.int hi)] (v1.toList ++ []) M1 v M' 0 0)) := by
  have H : Ev none e 167 1 [some (.ref 633), some (.int lo), some (.int hi)] [.ref 633] M v M' 0 0 := Ev.back 1 (fun n => rfl) H
  have H : Ev none e 167 4 [some (.ref 633), some (.int lo), some (.int hi)] [.int (zI M 633 22)] M v M' 0 0 := Ev.back 1 (gs_3 rfl rfl (gf_i hS.1 qa_633 qi_61_22 rfl)) H
  have H : Ev none e 167 (if (zI M 633 22) = 2 then 14 else 8) [some (.ref 633), some (.int lo), some (.int hi)] [] M v M' 0 0 := Ev.back 2 (fun n => rfl) H
  by_cases h1 : (zI M 633 22) = 2
  · rw [if_pos h1] at H
    have H : Ev none e 167 15 [some (.ref 633), some (.int lo), some (.int hi)] [.ref 633] M v M' 0 0 := Ev.back 1 (fun n => rfl) H
    have H : Ev none e 167 18 [some (.ref 633), some (.int lo), some (.int hi)] [.int (zI M 633 25)] M v M' 0 0 := Ev.back 1 (gs_3 rfl rfl (gf_i hS.1 qa_633 qi_61_25 rfl)) H
    have H : Ev none e 167 20 [some (.ref 633), some (.int lo), some (.int hi)] [.int hi, .int lo, .int (zI M 633 25)] M v M' 0 0 := Ev.back 2 (fun n => rfl) H
    obtain ⟨e1, rfl⟩ := Ev.dpos rfl rfl H
    obtain ⟨vK2, MK2, K2, H⟩ := Ev.callb (fun n => rfl) H
    obtain ⟨pK2, qK2⟩ := g_140 hS K2
    rw [pK2, qK2] at H
    have H : Ev none (e1 + 1) 167 23 [some (.ref 633), some (.int lo), some (.int hi)] [.int (G_140 M (zI M 633 25) lo hi)] M v M' 0 0 := H
    have H : Ev none (e1 + 1) 167 (if (G_140 M (zI M 633 25) lo hi) = 0 then 26 else 32) [some (.ref 633), some (.int lo), some (.int hi)] [] M v M' 0 0 := Ev.back 1 (fun n => rfl) H
    by_cases h3 : (G_140 M (zI M 633 25) lo hi) = 0
    · rw [if_pos h3] at H
      have H : Ev none (e1 + 1) 167 28 [some (.ref 633), some (.int lo), some (.int hi)] [.int 2, .ref 633] M v M' 0 0 := Ev.back 2 (fun n => rfl) H
      obtain ⟨vK4, MK4, K4, H⟩ := Ev.callb (fun n => gs_7 rfl rfl (show gCal (.invokevirtual 198) 11 (.int 2 :: .ref 633 :: []) M = some (.inr (163, [some (.ref 633), some (.int 2)], [])) from by show @cond (Option ((List Value × Mem) ⊕ (Nat × Lo × List Value))) (true && gRecv M (.ref 633) 11 && gRoom [] && true) (some (.inr (163, [some (.ref 633), some (.int 2)], []))) none = _; rw [recv_s hS.1 qa_633 qo_61]; rfl)) H
      have K4 : Ev none e1 163 0 [some (.ref 633), some (.int 2)] [] M vK4 MK4 0 0 := K4
      have HF := H
      exact Or.inl ⟨h1, h3, ⟨e1, vK4, MK4, rfl, K4, HF⟩⟩
    · rw [if_neg h3] at H
      have H : Ev none (e1 + 1) 167 34 [some (.ref 633), some (.int lo), some (.int hi)] [.ref 633, .ref 633] M v M' 0 0 := Ev.back 2 (fun n => rfl) H
      have H : Ev none (e1 + 1) 167 37 [some (.ref 633), some (.int lo), some (.int hi)] [.int (zI M 633 25), .ref 633] M v M' 0 0 := Ev.back 1 (gs_3 rfl rfl (gf_i hS.1 qa_633 qi_61_25 rfl)) H
      obtain ⟨N6, eN6⟩ : ∃ N, N = (wF M 633 32 (zI M 633 25)) := ⟨_, rfl⟩
      have hN6 : SQ N6 := by rw [eN6]; exact hS.kf
      have H : Ev none (e1 + 1) 167 40 [some (.ref 633), some (.int lo), some (.int hi)] [] N6 v M' 0 0 := by rw [eN6]; exact Ev.pfi rfl rfl rfl hS.1 qa_633 qi_61_32 H
      have H : Ev none (e1 + 1) 167 41 [some (.ref 633), some (.int lo), some (.int hi)] [.ref 633] N6 v M' 0 0 := Ev.back 1 (fun n => rfl) H
      obtain ⟨vK7, MK7, K7, H⟩ := Ev.callb (fun n => gs_7 rfl rfl (show gCal (.invokevirtual 201) 11 (.ref 633 :: []) N6 = some (.inr (162, [some (.ref 633), none, none, none], [])) from by show @cond (Option ((List Value × Mem) ⊕ (Nat × Lo × List Value))) (true && gRecv N6 (.ref 633) 11 && gRoom [] && true) (some (.inr (162, [some (.ref 633), none, none, none], []))) none = _; rw [recv_s hN6.1 qa_633 qo_61]; rfl)) H
      have K7 : Ev none e1 162 0 [some (.ref 633), none, none, none] [] N6 vK7 MK7 0 0 := K7
      have HF := H
      subst eN6
      exact Or.inr (Or.inl ⟨h1, h3, ⟨e1, vK7, MK7, rfl, K7, HF⟩⟩)
  · rw [if_neg h1] at H
    have H : Ev none e 167 10 [some (.ref 633), some (.int lo), some (.int hi)] [.int 1, .ref 633] M v M' 0 0 := Ev.back 2 (fun n => rfl) H
    obtain ⟨e1, rfl⟩ := Ev.dpos rfl rfl H
    obtain ⟨vK8, MK8, K8, H⟩ := Ev.callb (fun n => gs_7 rfl rfl (show gCal (.invokevirtual 198) 11 (.int 1 :: .ref 633 :: []) M = some (.inr (163, [some (.ref 633), some (.int 1)], [])) from by show @cond (Option ((List Value × Mem) ⊕ (Nat × Lo × List Value))) (true && gRecv M (.ref 633) 11 && gRoom [] && true) (some (.inr (163, [some (.ref 633), some (.int 1)], []))) none = _; rw [recv_s hS.1 qa_633 qo_61]; rfl)) H
    have K8 : Ev none e1 163 0 [some (.ref 633), some (.int 1)] [] M vK8 MK8 0 0 := K8
    have HF := H
    exact Or.inr (Or.inr (⟨h1, ⟨e1, vK8, MK8, rfl, K8, HF⟩⟩))
theorem tkq_13 {e : Nat} {M M' : Mem} {v : Option Value} {lo hi y : Int32} (hS : SQ M) (H : Ev none e 167 13 [some (.ref 633), some (.int lo), some (.int hi)] [.int y] M v M' 0 0) : v = some (.int y) ∧ M' = M := by
  obtain ⟨z1, z2⟩ := Ev.retz rfl rfl H
  exact ⟨z1, z2⟩
theorem tkq_31 {e : Nat} {M M' : Mem} {v : Option Value} {lo hi y : Int32} (hS : SQ M) (H : Ev none e 167 31 [some (.ref 633), some (.int lo), some (.int hi)] [.int y] M v M' 0 0) : v = some (.int y) ∧ M' = M := by
  obtain ⟨z1, z2⟩ := Ev.retz rfl rfl H
  exact ⟨z1, z2⟩
theorem tkq_44 {e : Nat} {M M' : Mem} {v : Option Value} {lo hi : Int32} (hS : SQ M) (H : Ev none e 167 44 [some (.ref 633), some (.int lo), some (.int hi)] [] M v M' 0 0) : v = some (.int 1) ∧ M' = M := by
  have H : Ev none e 167 45 [some (.ref 633), some (.int lo), some (.int hi)] [.int 1] M v M' 0 0 := Ev.back 1 (fun n => rfl) H
  obtain ⟨z1, z2⟩ := Ev.retz rfl rfl H
  exact ⟨z1, z2⟩
theorem fdq_0 {e : Nat} {M M' : Mem} {v : Option Value} {t k : Int32} (hS : SQ M) (H : Ev none e 172 0 [some (.ref 633), some (.int t), some (.int k), none] [] M v M' 0 0) : Ev none e 172 5 [some (.ref 633), some (.int t), some (.int k), some (.int (16 * t))] [] M v M' 0 0 := by
  have H : Ev none e 172 5 [some (.ref 633), some (.int t), some (.int k), some (.int (16 * t))] [] M v M' 0 0 := Ev.back 4 (fun n => rfl) H
  have HF := H
  exact HF
theorem fdq_5 {e : Nat} {M M' : Mem} {v : Option Value} {t k j : Int32} (hS : SQ M) (H : Ev none e 172 5 [some (.ref 633), some (.int t), some (.int k), some (.int j)] [] M v M' 0 0) : (((16 * t) + (rI M 639 t)) ≤ j ∧ (0 ≤ t.toInt ∧ t.toInt < 8) ∧ v = some (.int (-1)) ∧ M' = M) ∨ (¬ (((16 * t) + (rI M 639 t)) ≤ j) ∧ (rI M 640 j) = k ∧ (0 ≤ t.toInt ∧ t.toInt < 8) ∧ (0 ≤ j.toInt ∧ j.toInt < 128) ∧ v = some (.int j) ∧ M' = M) ∨ (¬ (((16 * t) + (rI M 639 t)) ≤ j) ∧ ¬ ((rI M 640 j) = k) ∧ (0 ≤ t.toInt ∧ t.toInt < 8) ∧ (0 ≤ j.toInt ∧ j.toInt < 128) ∧ Ev none e 172 5 [some (.ref 633), some (.int t), some (.int k), some (.int (j + 1))] [] M v M' 0 0) := by
  have H : Ev none e 172 11 [some (.ref 633), some (.int t), some (.int k), some (.int j)] [.ref 633, .int (16 * t), .int j] M v M' 0 0 := Ev.back 5 (fun n => rfl) H
  have H : Ev none e 172 14 [some (.ref 633), some (.int t), some (.int k), some (.int j)] [.ref 639, .int (16 * t), .int j] M v M' 0 0 := Ev.back 1 (gs_3 rfl rfl (gf_u hS.1 qa_633 qr_61_9 qu_67 rfl)) H
  have H : Ev none e 172 15 [some (.ref 633), some (.int t), some (.int k), some (.int j)] [.int t, .ref 639, .int (16 * t), .int j] M v M' 0 0 := Ev.back 1 (fun n => rfl) H
  obtain ⟨b1, H⟩ := Ev.ial rfl rfl hS.1 qa_639 qw_67 H
  have H : Ev none e 172 16 [some (.ref 633), some (.int t), some (.int k), some (.int j)] [.int (rI M 639 t), .int (16 * t), .int j] M v M' 0 0 := H
  have H : Ev none e 172 (if ((16 * t) + (rI M 639 t)) ≤ j then 38 else 20) [some (.ref 633), some (.int t), some (.int k), some (.int j)] [] M v M' 0 0 := Ev.back 2 (fun n => rfl) H
  by_cases h2 : ((16 * t) + (rI M 639 t)) ≤ j
  · rw [if_pos h2] at H
    have H : Ev none e 172 39 [some (.ref 633), some (.int t), some (.int k), some (.int j)] [.int (-1)] M v M' 0 0 := Ev.back 1 (fun n => rfl) H
    obtain ⟨z1, z2⟩ := Ev.retz rfl rfl H
    exact Or.inl ⟨h2, b1, z1, z2⟩
  · rw [if_neg h2] at H
    have H : Ev none e 172 21 [some (.ref 633), some (.int t), some (.int k), some (.int j)] [.ref 633] M v M' 0 0 := Ev.back 1 (fun n => rfl) H
    have H : Ev none e 172 24 [some (.ref 633), some (.int t), some (.int k), some (.int j)] [.ref 640] M v M' 0 0 := Ev.back 1 (gs_3 rfl rfl (gf_u hS.1 qa_633 qr_61_10 qu_68 rfl)) H
    have H : Ev none e 172 25 [some (.ref 633), some (.int t), some (.int k), some (.int j)] [.int j, .ref 640] M v M' 0 0 := Ev.back 1 (fun n => rfl) H
    obtain ⟨b3, H⟩ := Ev.ial rfl rfl hS.1 qa_640 qw_68 H
    have H : Ev none e 172 26 [some (.ref 633), some (.int t), some (.int k), some (.int j)] [.int (rI M 640 j)] M v M' 0 0 := H
    have H : Ev none e 172 (if (rI M 640 j) = k then 30 else 32) [some (.ref 633), some (.int t), some (.int k), some (.int j)] [] M v M' 0 0 := Ev.back 2 (fun n => rfl) H
    by_cases h4 : (rI M 640 j) = k
    · rw [if_pos h4] at H
      have H : Ev none e 172 31 [some (.ref 633), some (.int t), some (.int k), some (.int j)] [.int j] M v M' 0 0 := Ev.back 1 (fun n => rfl) H
      obtain ⟨z1, z2⟩ := Ev.retz rfl rfl H
      exact Or.inr (Or.inl ⟨h2, h4, b1, b3, z1, z2⟩)
    · rw [if_neg h4] at H
      have H : Ev none e 172 5 [some (.ref 633), some (.int t), some (.int k), some (.int (j + 1))] [] M v M' 0 0 := Ev.back 2 (fun n => rfl) H
      have HF := H
      exact Or.inr (Or.inr (⟨h2, h4, b1, b3, HF⟩))
theorem rlq0_0 {e : Nat} {M M' : Mem} {v : Option Value} {i : Int32} (hS : SQ M) (H : Ev none e 170 0 [some (.ref 633), some (.int i), some (.int 0), none] [] M v M' 0 0) : (∃ e1 v1 M1, e = e1 + 1 ∧ Ev none e1 167 0 [some (.ref 633), some (.int 0), some (.int 999)] [] M v1 M1 0 0 ∧ Ev none e 170 75 [some (.ref 633), some (.int i), some (.int 0), none] (v1.toList ++ []) M1 v M' 0 0) := by
  have H : Ev none e 170 (if 0 = 5 then 5 else 31) [some (.ref 633), some (.int i), some (.int 0), none] [] M v M' 0 0 := Ev.back 3 (fun n => rfl) H
  rw [if_neg (by decide)] at H
  have H : Ev none e 170 (if 0 = 6 then 90 else 37) [some (.ref 633), some (.int i), some (.int 0), none] [] M v M' 0 0 := Ev.back 3 (fun n => rfl) H
  rw [if_neg (by decide)] at H
  have H : Ev none e 170 (if 0 = 2 then 43 else 47) [some (.ref 633), some (.int i), some (.int 0), none] [.ref 633] M v M' 0 0 := Ev.back 4 (fun n => rfl) H
  rw [if_neg (by decide)] at H
  have H : Ev none e 170 (if 0 = 5 then 53 else 58) [some (.ref 633), some (.int i), some (.int 0), none] [.int 0, .ref 633] M v M' 0 0 := Ev.back 4 (fun n => rfl) H
  rw [if_neg (by decide)] at H
  have H : Ev none e 170 (if 0 = 7 then 64 else 69) [some (.ref 633), some (.int i), some (.int 0), none] [.int 0, .ref 633] M v M' 0 0 := Ev.back 3 (fun n => rfl) H
  rw [if_neg (by decide)] at H
  have H : Ev none e 170 72 [some (.ref 633), some (.int i), some (.int 0), none] [.int 999, .int 0, .ref 633] M v M' 0 0 := Ev.back 1 (fun n => rfl) H
  obtain ⟨e1, rfl⟩ := Ev.dpos rfl rfl H
  obtain ⟨vK1, MK1, K1, H⟩ := Ev.callb (fun n => gs_7 rfl rfl (show gCal (.invokevirtual 240) 11 (.int 999 :: .int 0 :: .ref 633 :: []) M = some (.inr (167, [some (.ref 633), some (.int 0), some (.int 999)], [])) from by show @cond (Option ((List Value × Mem) ⊕ (Nat × Lo × List Value))) (true && gRecv M (.ref 633) 11 && gRoom [] && true) (some (.inr (167, [some (.ref 633), some (.int 0), some (.int 999)], []))) none = _; rw [recv_s hS.1 qa_633 qo_61]; rfl)) H
  have K1 : Ev none e1 167 0 [some (.ref 633), some (.int 0), some (.int 999)] [] M vK1 MK1 0 0 := K1
  have HF := H
  exact ⟨e1, vK1, MK1, rfl, K1, HF⟩
theorem rlq0_75 {e : Nat} {M M' : Mem} {v : Option Value} {i y : Int32} {c3 : Option Value} (hS : SQ M) (H : Ev none e 170 75 [some (.ref 633), some (.int i), some (.int 0), c3] [.int y] M v M' 0 0) : (y = 0 ∧ v = some (.int 0) ∧ M' = M) ∨ (¬ (y = 0) ∧ (G_164 (wI (wI M 642 i.toNatClampNeg (zI M 633 32)) 643 i.toNatClampNeg (zI M 633 19)) 26982) = 0 ∧ (0 ≤ i.toInt ∧ i.toInt < 128) ∧ (0 ≤ i.toInt ∧ i.toInt < 128) ∧ (0 ≤ i.toInt ∧ i.toInt < 128) ∧ v = some (.int 1) ∧ M' = (wI (wI (wI M 642 i.toNatClampNeg (zI M 633 32)) 643 i.toNatClampNeg (zI M 633 19)) 644 i.toNatClampNeg (zI M 633 19))) ∨ (¬ (y = 0) ∧ ¬ ((G_164 (wI (wI M 642 i.toNatClampNeg (zI M 633 32)) 643 i.toNatClampNeg (zI M 633 19)) 26982) = 0) ∧ (0 ≤ i.toInt ∧ i.toInt < 128) ∧ (0 ≤ i.toInt ∧ i.toInt < 128) ∧ (∃ e1 v1 M1, e = e1 + 1 ∧ Ev none e1 162 0 [some (.ref 633), none, none, none] [] (wI (wI M 642 i.toNatClampNeg (zI M 633 32)) 643 i.toNatClampNeg (zI M 633 19)) v1 M1 0 0 ∧ Ev none e 170 140 [some (.ref 633), some (.int i), some (.int 0), some (.int 0)] (v1.toList ++ []) M1 v M' 0 0)) := by
  have H : Ev none e 170 (if y = 0 then 78 else 80) [some (.ref 633), some (.int i), some (.int 0), c3] [] M v M' 0 0 := Ev.back 1 (fun n => rfl) H
  by_cases h1 : y = 0
  · rw [if_pos h1] at H
    have H : Ev none e 170 79 [some (.ref 633), some (.int i), some (.int 0), c3] [.int 0] M v M' 0 0 := Ev.back 1 (fun n => rfl) H
    obtain ⟨z1, z2⟩ := Ev.retz rfl rfl H
    exact Or.inl ⟨h1, z1, z2⟩
  · rw [if_neg h1] at H
    have H : Ev none e 170 81 [some (.ref 633), some (.int i), some (.int 0), c3] [.ref 633] M v M' 0 0 := Ev.back 1 (fun n => rfl) H
    have H : Ev none e 170 84 [some (.ref 633), some (.int i), some (.int 0), c3] [.ref 642] M v M' 0 0 := Ev.back 1 (gs_3 rfl rfl (gf_u hS.1 qa_633 qr_61_12 qu_70 rfl)) H
    have H : Ev none e 170 86 [some (.ref 633), some (.int i), some (.int 0), c3] [.ref 633, .int i, .ref 642] M v M' 0 0 := Ev.back 2 (fun n => rfl) H
    have H : Ev none e 170 89 [some (.ref 633), some (.int i), some (.int 0), c3] [.int (zI M 633 32), .int i, .ref 642] M v M' 0 0 := Ev.back 1 (gs_3 rfl rfl (gf_i hS.1 qa_633 qi_61_32 rfl)) H
    obtain ⟨b2, H⟩ := Ev.ias rfl rfl hS.1 qa_642 qw_70 H
    obtain ⟨N3, eN3⟩ : ∃ N, N = (wI M 642 i.toNatClampNeg (zI M 633 32)) := ⟨_, rfl⟩
    have hN3 : SQ N3 := by rw [eN3]; exact hS.ki
    have H : Ev none e 170 90 [some (.ref 633), some (.int i), some (.int 0), c3] [] N3 v M' 0 0 := by rw [eN3]; exact H
    have H : Ev none e 170 91 [some (.ref 633), some (.int i), some (.int 0), c3] [.ref 633] N3 v M' 0 0 := Ev.back 1 (fun n => rfl) H
    have H : Ev none e 170 94 [some (.ref 633), some (.int i), some (.int 0), c3] [.ref 643] N3 v M' 0 0 := Ev.back 1 (gs_3 rfl rfl (gf_u hN3.1 qa_633 qr_61_13 qu_71 rfl)) H
    have H : Ev none e 170 96 [some (.ref 633), some (.int i), some (.int 0), c3] [.ref 633, .int i, .ref 643] N3 v M' 0 0 := Ev.back 2 (fun n => rfl) H
    have H : Ev none e 170 99 [some (.ref 633), some (.int i), some (.int 0), c3] [.int (zI N3 633 19), .int i, .ref 643] N3 v M' 0 0 := Ev.back 1 (gs_3 rfl rfl (gf_i hN3.1 qa_633 qi_61_19 rfl)) H
    rw [show zI N3 633 19 = zI M 633 19 from by rw [eN3]; exact fI_wI] at H
    obtain ⟨b4, H⟩ := Ev.ias rfl rfl hN3.1 qa_643 qw_71 H
    obtain ⟨N5, eN5⟩ : ∃ N, N = (wI N3 643 i.toNatClampNeg (zI M 633 19)) := ⟨_, rfl⟩
    have hN5 : SQ N5 := by rw [eN5]; exact hN3.ki
    have H : Ev none e 170 100 [some (.ref 633), some (.int i), some (.int 0), c3] [] N5 v M' 0 0 := by rw [eN5]; exact H
    have H : Ev none e 170 (if 0 = 6 then 106 else 110) [some (.ref 633), some (.int i), some (.int 0), c3] [] N5 v M' 0 0 := Ev.back 3 (fun n => rfl) H
    rw [if_neg (by decide)] at H
    have H : Ev none e 170 (if 0 = 0 then 126 else 116) [some (.ref 633), some (.int i), some (.int 0), some (.int 0)] [] N5 v M' 0 0 := Ev.back 4 (fun n => rfl) H
    rw [if_pos (by decide)] at H
    have H : Ev none e 170 130 [some (.ref 633), some (.int i), some (.int 0), some (.int 0)] [.long 26982, .ref 633] N5 v M' 0 0 := Ev.back 2 (fun n => rfl) H
    obtain ⟨e1, rfl⟩ := Ev.dpos rfl rfl H
    obtain ⟨vK6, MK6, K6, H⟩ := Ev.callb (fun n => gs_7 rfl rfl (show gCal (.invokevirtual 248) 11 (.long 26982 :: .ref 633 :: []) N5 = some (.inr (164, [some (.ref 633), some (.long 26982), none], [])) from by show @cond (Option ((List Value × Mem) ⊕ (Nat × Lo × List Value))) (true && gRecv N5 (.ref 633) 11 && gRoom [] && true) (some (.inr (164, [some (.ref 633), some (.long 26982), none], []))) none = _; rw [recv_s hN5.1 qa_633 qo_61]; rfl)) H
    obtain ⟨pK6, qK6⟩ := g_164 hN5 K6
    rw [pK6, qK6] at H
    have H : Ev none (e1 + 1) 170 133 [some (.ref 633), some (.int i), some (.int 0), some (.int 0)] [.int (G_164 N5 26982)] N5 v M' 0 0 := H
    have H : Ev none (e1 + 1) 170 (if (G_164 N5 26982) = 0 then 142 else 136) [some (.ref 633), some (.int i), some (.int 0), some (.int 0)] [] N5 v M' 0 0 := Ev.back 1 (fun n => rfl) H
    by_cases h7 : (G_164 N5 26982) = 0
    · rw [if_pos h7] at H
      have H : Ev none (e1 + 1) 170 (if 0 = 0 then 155 else 146) [some (.ref 633), some (.int i), some (.int 0), some (.int 0)] [] N5 v M' 0 0 := Ev.back 2 (fun n => rfl) H
      rw [if_pos (by decide)] at H
      have H : Ev none (e1 + 1) 170 156 [some (.ref 633), some (.int i), some (.int 0), some (.int 0)] [.ref 633] N5 v M' 0 0 := Ev.back 1 (fun n => rfl) H
      have H : Ev none (e1 + 1) 170 159 [some (.ref 633), some (.int i), some (.int 0), some (.int 0)] [.ref 644] N5 v M' 0 0 := Ev.back 1 (gs_3 rfl rfl (gf_u hN5.1 qa_633 qr_61_14 qu_72 rfl)) H
      have H : Ev none (e1 + 1) 170 161 [some (.ref 633), some (.int i), some (.int 0), some (.int 0)] [.ref 633, .int i, .ref 644] N5 v M' 0 0 := Ev.back 2 (fun n => rfl) H
      have H : Ev none (e1 + 1) 170 164 [some (.ref 633), some (.int i), some (.int 0), some (.int 0)] [.int (zI N5 633 19), .int i, .ref 644] N5 v M' 0 0 := Ev.back 1 (gs_3 rfl rfl (gf_i hN5.1 qa_633 qi_61_19 rfl)) H
      rw [(show zI N5 633 19 = zI N3 633 19 from by rw [eN5]; exact fI_wI).trans (show zI N3 633 19 = zI M 633 19 from by rw [eN3]; exact fI_wI)] at H
      obtain ⟨b8, H⟩ := Ev.ias rfl rfl hN5.1 qa_644 qw_72 H
      obtain ⟨N9, eN9⟩ : ∃ N, N = (wI N5 644 i.toNatClampNeg (zI M 633 19)) := ⟨_, rfl⟩
      have hN9 : SQ N9 := by rw [eN9]; exact hN5.ki
      have H : Ev none (e1 + 1) 170 165 [some (.ref 633), some (.int i), some (.int 0), some (.int 0)] [] N9 v M' 0 0 := by rw [eN9]; exact H
      have H : Ev none (e1 + 1) 170 166 [some (.ref 633), some (.int i), some (.int 0), some (.int 0)] [.int 1] N9 v M' 0 0 := Ev.back 1 (fun n => rfl) H
      obtain ⟨z1, z2⟩ := Ev.retz rfl rfl H
      subst eN3 eN5 eN9
      exact Or.inr (Or.inl ⟨h1, h7, b2, b4, b8, z1, z2⟩)
    · rw [if_neg h7] at H
      have H : Ev none (e1 + 1) 170 137 [some (.ref 633), some (.int i), some (.int 0), some (.int 0)] [.ref 633] N5 v M' 0 0 := Ev.back 1 (fun n => rfl) H
      obtain ⟨vK10, MK10, K10, H⟩ := Ev.callb (fun n => gs_7 rfl rfl (show gCal (.invokevirtual 201) 11 (.ref 633 :: []) N5 = some (.inr (162, [some (.ref 633), none, none, none], [])) from by show @cond (Option ((List Value × Mem) ⊕ (Nat × Lo × List Value))) (true && gRecv N5 (.ref 633) 11 && gRoom [] && true) (some (.inr (162, [some (.ref 633), none, none, none], []))) none = _; rw [recv_s hN5.1 qa_633 qo_61]; rfl)) H
      have K10 : Ev none e1 162 0 [some (.ref 633), none, none, none] [] N5 vK10 MK10 0 0 := K10
      have HF := H
      subst eN3 eN5
      exact Or.inr (Or.inr (⟨h1, h7, b2, b4, ⟨e1, vK10, MK10, rfl, K10, HF⟩⟩))
theorem rlq0_140 {e : Nat} {M M' : Mem} {v : Option Value} {i : Int32} {c3 : Option Value} (hS : SQ M) (H : Ev none e 170 140 [some (.ref 633), some (.int i), some (.int 0), c3] [] M v M' 0 0) : (∃ e1 v1 M1, e = e1 + 1 ∧ Ev none e1 179 0 [some (.ref 633), none] [] M v1 M1 0 0 ∧ Ev none e 170 150 [some (.ref 633), some (.int i), some (.int 0), some (.int 1)] (v1.toList ++ []) M1 v M' 0 0) := by
  have H : Ev none e 170 (if 1 = 0 then 155 else 146) [some (.ref 633), some (.int i), some (.int 0), some (.int 1)] [] M v M' 0 0 := Ev.back 4 (fun n => rfl) H
  rw [if_neg (by decide)] at H
  have H : Ev none e 170 147 [some (.ref 633), some (.int i), some (.int 0), some (.int 1)] [.ref 633] M v M' 0 0 := Ev.back 1 (fun n => rfl) H
  obtain ⟨e1, rfl⟩ := Ev.dpos rfl rfl H
  obtain ⟨vK1, MK1, K1, H⟩ := Ev.callb (fun n => gs_7 rfl rfl (show gCal (.invokevirtual 252) 11 (.ref 633 :: []) M = some (.inr (179, [some (.ref 633), none], [])) from by show @cond (Option ((List Value × Mem) ⊕ (Nat × Lo × List Value))) (true && gRecv M (.ref 633) 11 && gRoom [] && true) (some (.inr (179, [some (.ref 633), none], []))) none = _; rw [recv_s hS.1 qa_633 qo_61]; rfl)) H
  have K1 : Ev none e1 179 0 [some (.ref 633), none] [] M vK1 MK1 0 0 := K1
  have HF := H
  exact ⟨e1, vK1, MK1, rfl, K1, HF⟩
theorem rlq0_150 {e : Nat} {M M' : Mem} {v : Option Value} {i y : Int32} {c3 : Option Value} (hS : SQ M) (H : Ev none e 170 150 [some (.ref 633), some (.int i), some (.int 0), c3] [.int y] M v M' 0 0) : (y = 0 ∧ v = some (.int 0) ∧ M' = M) ∨ (¬ (y = 0) ∧ (0 ≤ i.toInt ∧ i.toInt < 128) ∧ v = some (.int 1) ∧ M' = (wI M 644 i.toNatClampNeg (zI M 633 19))) := by
  have H : Ev none e 170 (if y = 0 then 153 else 155) [some (.ref 633), some (.int i), some (.int 0), c3] [] M v M' 0 0 := Ev.back 1 (fun n => rfl) H
  by_cases h1 : y = 0
  · rw [if_pos h1] at H
    have H : Ev none e 170 154 [some (.ref 633), some (.int i), some (.int 0), c3] [.int 0] M v M' 0 0 := Ev.back 1 (fun n => rfl) H
    obtain ⟨z1, z2⟩ := Ev.retz rfl rfl H
    exact Or.inl ⟨h1, z1, z2⟩
  · rw [if_neg h1] at H
    have H : Ev none e 170 156 [some (.ref 633), some (.int i), some (.int 0), c3] [.ref 633] M v M' 0 0 := Ev.back 1 (fun n => rfl) H
    have H : Ev none e 170 159 [some (.ref 633), some (.int i), some (.int 0), c3] [.ref 644] M v M' 0 0 := Ev.back 1 (gs_3 rfl rfl (gf_u hS.1 qa_633 qr_61_14 qu_72 rfl)) H
    have H : Ev none e 170 161 [some (.ref 633), some (.int i), some (.int 0), c3] [.ref 633, .int i, .ref 644] M v M' 0 0 := Ev.back 2 (fun n => rfl) H
    have H : Ev none e 170 164 [some (.ref 633), some (.int i), some (.int 0), c3] [.int (zI M 633 19), .int i, .ref 644] M v M' 0 0 := Ev.back 1 (gs_3 rfl rfl (gf_i hS.1 qa_633 qi_61_19 rfl)) H
    obtain ⟨b2, H⟩ := Ev.ias rfl rfl hS.1 qa_644 qw_72 H
    obtain ⟨N3, eN3⟩ : ∃ N, N = (wI M 644 i.toNatClampNeg (zI M 633 19)) := ⟨_, rfl⟩
    have hN3 : SQ N3 := by rw [eN3]; exact hS.ki
    have H : Ev none e 170 165 [some (.ref 633), some (.int i), some (.int 0), c3] [] N3 v M' 0 0 := by rw [eN3]; exact H
    have H : Ev none e 170 166 [some (.ref 633), some (.int i), some (.int 0), c3] [.int 1] N3 v M' 0 0 := Ev.back 1 (fun n => rfl) H
    obtain ⟨z1, z2⟩ := Ev.retz rfl rfl H
    subst eN3
    exact Or.inr (⟨h1, b2, z1, z2⟩)
theorem rlq1_0 {e : Nat} {M M' : Mem} {v : Option Value} {i : Int32} (hS : SQ M) (H : Ev none e 170 0 [some (.ref 633), some (.int i), some (.int 1), none] [] M v M' 0 0) : (∃ e1 v1 M1, e = e1 + 1 ∧ Ev none e1 167 0 [some (.ref 633), some (.int 0), some (.int 999)] [] M v1 M1 0 0 ∧ Ev none e 170 75 [some (.ref 633), some (.int i), some (.int 1), none] (v1.toList ++ []) M1 v M' 0 0) := by
  have H : Ev none e 170 (if 1 = 5 then 5 else 31) [some (.ref 633), some (.int i), some (.int 1), none] [] M v M' 0 0 := Ev.back 3 (fun n => rfl) H
  rw [if_neg (by decide)] at H
  have H : Ev none e 170 (if 1 = 6 then 90 else 37) [some (.ref 633), some (.int i), some (.int 1), none] [] M v M' 0 0 := Ev.back 3 (fun n => rfl) H
  rw [if_neg (by decide)] at H
  have H : Ev none e 170 (if 1 = 2 then 43 else 47) [some (.ref 633), some (.int i), some (.int 1), none] [.ref 633] M v M' 0 0 := Ev.back 4 (fun n => rfl) H
  rw [if_neg (by decide)] at H
  have H : Ev none e 170 (if 1 = 5 then 53 else 58) [some (.ref 633), some (.int i), some (.int 1), none] [.int 0, .ref 633] M v M' 0 0 := Ev.back 4 (fun n => rfl) H
  rw [if_neg (by decide)] at H
  have H : Ev none e 170 (if 1 = 7 then 64 else 69) [some (.ref 633), some (.int i), some (.int 1), none] [.int 0, .ref 633] M v M' 0 0 := Ev.back 3 (fun n => rfl) H
  rw [if_neg (by decide)] at H
  have H : Ev none e 170 72 [some (.ref 633), some (.int i), some (.int 1), none] [.int 999, .int 0, .ref 633] M v M' 0 0 := Ev.back 1 (fun n => rfl) H
  obtain ⟨e1, rfl⟩ := Ev.dpos rfl rfl H
  obtain ⟨vK1, MK1, K1, H⟩ := Ev.callb (fun n => gs_7 rfl rfl (show gCal (.invokevirtual 240) 11 (.int 999 :: .int 0 :: .ref 633 :: []) M = some (.inr (167, [some (.ref 633), some (.int 0), some (.int 999)], [])) from by show @cond (Option ((List Value × Mem) ⊕ (Nat × Lo × List Value))) (true && gRecv M (.ref 633) 11 && gRoom [] && true) (some (.inr (167, [some (.ref 633), some (.int 0), some (.int 999)], []))) none = _; rw [recv_s hS.1 qa_633 qo_61]; rfl)) H
  have K1 : Ev none e1 167 0 [some (.ref 633), some (.int 0), some (.int 999)] [] M vK1 MK1 0 0 := K1
  have HF := H
  exact ⟨e1, vK1, MK1, rfl, K1, HF⟩
theorem rlq1_75 {e : Nat} {M M' : Mem} {v : Option Value} {i y : Int32} {c3 : Option Value} (hS : SQ M) (H : Ev none e 170 75 [some (.ref 633), some (.int i), some (.int 1), c3] [.int y] M v M' 0 0) : (y = 0 ∧ v = some (.int 0) ∧ M' = M) ∨ (¬ (y = 0) ∧ (G_164 (wI (wI M 642 i.toNatClampNeg (zI M 633 32)) 643 i.toNatClampNeg (zI M 633 19)) 26982) = 0 ∧ (0 ≤ i.toInt ∧ i.toInt < 128) ∧ (0 ≤ i.toInt ∧ i.toInt < 128) ∧ (0 ≤ i.toInt ∧ i.toInt < 128) ∧ v = some (.int 1) ∧ M' = (wI (wI (wI M 642 i.toNatClampNeg (zI M 633 32)) 643 i.toNatClampNeg (zI M 633 19)) 644 i.toNatClampNeg (zI M 633 19))) ∨ (¬ (y = 0) ∧ ¬ ((G_164 (wI (wI M 642 i.toNatClampNeg (zI M 633 32)) 643 i.toNatClampNeg (zI M 633 19)) 26982) = 0) ∧ (0 ≤ i.toInt ∧ i.toInt < 128) ∧ (0 ≤ i.toInt ∧ i.toInt < 128) ∧ (∃ e1 v1 M1, e = e1 + 1 ∧ Ev none e1 162 0 [some (.ref 633), none, none, none] [] (wI (wI M 642 i.toNatClampNeg (zI M 633 32)) 643 i.toNatClampNeg (zI M 633 19)) v1 M1 0 0 ∧ Ev none e 170 140 [some (.ref 633), some (.int i), some (.int 1), some (.int 0)] (v1.toList ++ []) M1 v M' 0 0)) := by
  have H : Ev none e 170 (if y = 0 then 78 else 80) [some (.ref 633), some (.int i), some (.int 1), c3] [] M v M' 0 0 := Ev.back 1 (fun n => rfl) H
  by_cases h1 : y = 0
  · rw [if_pos h1] at H
    have H : Ev none e 170 79 [some (.ref 633), some (.int i), some (.int 1), c3] [.int 0] M v M' 0 0 := Ev.back 1 (fun n => rfl) H
    obtain ⟨z1, z2⟩ := Ev.retz rfl rfl H
    exact Or.inl ⟨h1, z1, z2⟩
  · rw [if_neg h1] at H
    have H : Ev none e 170 81 [some (.ref 633), some (.int i), some (.int 1), c3] [.ref 633] M v M' 0 0 := Ev.back 1 (fun n => rfl) H
    have H : Ev none e 170 84 [some (.ref 633), some (.int i), some (.int 1), c3] [.ref 642] M v M' 0 0 := Ev.back 1 (gs_3 rfl rfl (gf_u hS.1 qa_633 qr_61_12 qu_70 rfl)) H
    have H : Ev none e 170 86 [some (.ref 633), some (.int i), some (.int 1), c3] [.ref 633, .int i, .ref 642] M v M' 0 0 := Ev.back 2 (fun n => rfl) H
    have H : Ev none e 170 89 [some (.ref 633), some (.int i), some (.int 1), c3] [.int (zI M 633 32), .int i, .ref 642] M v M' 0 0 := Ev.back 1 (gs_3 rfl rfl (gf_i hS.1 qa_633 qi_61_32 rfl)) H
    obtain ⟨b2, H⟩ := Ev.ias rfl rfl hS.1 qa_642 qw_70 H
    obtain ⟨N3, eN3⟩ : ∃ N, N = (wI M 642 i.toNatClampNeg (zI M 633 32)) := ⟨_, rfl⟩
    have hN3 : SQ N3 := by rw [eN3]; exact hS.ki
    have H : Ev none e 170 90 [some (.ref 633), some (.int i), some (.int 1), c3] [] N3 v M' 0 0 := by rw [eN3]; exact H
    have H : Ev none e 170 91 [some (.ref 633), some (.int i), some (.int 1), c3] [.ref 633] N3 v M' 0 0 := Ev.back 1 (fun n => rfl) H
    have H : Ev none e 170 94 [some (.ref 633), some (.int i), some (.int 1), c3] [.ref 643] N3 v M' 0 0 := Ev.back 1 (gs_3 rfl rfl (gf_u hN3.1 qa_633 qr_61_13 qu_71 rfl)) H
    have H : Ev none e 170 96 [some (.ref 633), some (.int i), some (.int 1), c3] [.ref 633, .int i, .ref 643] N3 v M' 0 0 := Ev.back 2 (fun n => rfl) H
    have H : Ev none e 170 99 [some (.ref 633), some (.int i), some (.int 1), c3] [.int (zI N3 633 19), .int i, .ref 643] N3 v M' 0 0 := Ev.back 1 (gs_3 rfl rfl (gf_i hN3.1 qa_633 qi_61_19 rfl)) H
    rw [show zI N3 633 19 = zI M 633 19 from by rw [eN3]; exact fI_wI] at H
    obtain ⟨b4, H⟩ := Ev.ias rfl rfl hN3.1 qa_643 qw_71 H
    obtain ⟨N5, eN5⟩ : ∃ N, N = (wI N3 643 i.toNatClampNeg (zI M 633 19)) := ⟨_, rfl⟩
    have hN5 : SQ N5 := by rw [eN5]; exact hN3.ki
    have H : Ev none e 170 100 [some (.ref 633), some (.int i), some (.int 1), c3] [] N5 v M' 0 0 := by rw [eN5]; exact H
    have H : Ev none e 170 (if 1 = 6 then 106 else 110) [some (.ref 633), some (.int i), some (.int 1), c3] [] N5 v M' 0 0 := Ev.back 3 (fun n => rfl) H
    rw [if_neg (by decide)] at H
    have H : Ev none e 170 (if 1 = 0 then 126 else 116) [some (.ref 633), some (.int i), some (.int 1), some (.int 0)] [] N5 v M' 0 0 := Ev.back 4 (fun n => rfl) H
    rw [if_neg (by decide)] at H
    have H : Ev none e 170 (if 1 = 1 then 126 else 121) [some (.ref 633), some (.int i), some (.int 1), some (.int 0)] [] N5 v M' 0 0 := Ev.back 3 (fun n => rfl) H
    rw [if_pos (by decide)] at H
    have H : Ev none e 170 130 [some (.ref 633), some (.int i), some (.int 1), some (.int 0)] [.long 26982, .ref 633] N5 v M' 0 0 := Ev.back 2 (fun n => rfl) H
    obtain ⟨e1, rfl⟩ := Ev.dpos rfl rfl H
    obtain ⟨vK6, MK6, K6, H⟩ := Ev.callb (fun n => gs_7 rfl rfl (show gCal (.invokevirtual 248) 11 (.long 26982 :: .ref 633 :: []) N5 = some (.inr (164, [some (.ref 633), some (.long 26982), none], [])) from by show @cond (Option ((List Value × Mem) ⊕ (Nat × Lo × List Value))) (true && gRecv N5 (.ref 633) 11 && gRoom [] && true) (some (.inr (164, [some (.ref 633), some (.long 26982), none], []))) none = _; rw [recv_s hN5.1 qa_633 qo_61]; rfl)) H
    obtain ⟨pK6, qK6⟩ := g_164 hN5 K6
    rw [pK6, qK6] at H
    have H : Ev none (e1 + 1) 170 133 [some (.ref 633), some (.int i), some (.int 1), some (.int 0)] [.int (G_164 N5 26982)] N5 v M' 0 0 := H
    have H : Ev none (e1 + 1) 170 (if (G_164 N5 26982) = 0 then 142 else 136) [some (.ref 633), some (.int i), some (.int 1), some (.int 0)] [] N5 v M' 0 0 := Ev.back 1 (fun n => rfl) H
    by_cases h7 : (G_164 N5 26982) = 0
    · rw [if_pos h7] at H
      have H : Ev none (e1 + 1) 170 (if 0 = 0 then 155 else 146) [some (.ref 633), some (.int i), some (.int 1), some (.int 0)] [] N5 v M' 0 0 := Ev.back 2 (fun n => rfl) H
      rw [if_pos (by decide)] at H
      have H : Ev none (e1 + 1) 170 156 [some (.ref 633), some (.int i), some (.int 1), some (.int 0)] [.ref 633] N5 v M' 0 0 := Ev.back 1 (fun n => rfl) H
      have H : Ev none (e1 + 1) 170 159 [some (.ref 633), some (.int i), some (.int 1), some (.int 0)] [.ref 644] N5 v M' 0 0 := Ev.back 1 (gs_3 rfl rfl (gf_u hN5.1 qa_633 qr_61_14 qu_72 rfl)) H
      have H : Ev none (e1 + 1) 170 161 [some (.ref 633), some (.int i), some (.int 1), some (.int 0)] [.ref 633, .int i, .ref 644] N5 v M' 0 0 := Ev.back 2 (fun n => rfl) H
      have H : Ev none (e1 + 1) 170 164 [some (.ref 633), some (.int i), some (.int 1), some (.int 0)] [.int (zI N5 633 19), .int i, .ref 644] N5 v M' 0 0 := Ev.back 1 (gs_3 rfl rfl (gf_i hN5.1 qa_633 qi_61_19 rfl)) H
      rw [(show zI N5 633 19 = zI N3 633 19 from by rw [eN5]; exact fI_wI).trans (show zI N3 633 19 = zI M 633 19 from by rw [eN3]; exact fI_wI)] at H
      obtain ⟨b8, H⟩ := Ev.ias rfl rfl hN5.1 qa_644 qw_72 H
      obtain ⟨N9, eN9⟩ : ∃ N, N = (wI N5 644 i.toNatClampNeg (zI M 633 19)) := ⟨_, rfl⟩
      have hN9 : SQ N9 := by rw [eN9]; exact hN5.ki
      have H : Ev none (e1 + 1) 170 165 [some (.ref 633), some (.int i), some (.int 1), some (.int 0)] [] N9 v M' 0 0 := by rw [eN9]; exact H
      have H : Ev none (e1 + 1) 170 166 [some (.ref 633), some (.int i), some (.int 1), some (.int 0)] [.int 1] N9 v M' 0 0 := Ev.back 1 (fun n => rfl) H
      obtain ⟨z1, z2⟩ := Ev.retz rfl rfl H
      subst eN3 eN5 eN9
      exact Or.inr (Or.inl ⟨h1, h7, b2, b4, b8, z1, z2⟩)
    · rw [if_neg h7] at H
      have H : Ev none (e1 + 1) 170 137 [some (.ref 633), some (.int i), some (.int 1), some (.int 0)] [.ref 633] N5 v M' 0 0 := Ev.back 1 (fun n => rfl) H
      obtain ⟨vK10, MK10, K10, H⟩ := Ev.callb (fun n => gs_7 rfl rfl (show gCal (.invokevirtual 201) 11 (.ref 633 :: []) N5 = some (.inr (162, [some (.ref 633), none, none, none], [])) from by show @cond (Option ((List Value × Mem) ⊕ (Nat × Lo × List Value))) (true && gRecv N5 (.ref 633) 11 && gRoom [] && true) (some (.inr (162, [some (.ref 633), none, none, none], []))) none = _; rw [recv_s hN5.1 qa_633 qo_61]; rfl)) H
      have K10 : Ev none e1 162 0 [some (.ref 633), none, none, none] [] N5 vK10 MK10 0 0 := K10
      have HF := H
      subst eN3 eN5
      exact Or.inr (Or.inr (⟨h1, h7, b2, b4, ⟨e1, vK10, MK10, rfl, K10, HF⟩⟩))
theorem rlq1_140 {e : Nat} {M M' : Mem} {v : Option Value} {i : Int32} {c3 : Option Value} (hS : SQ M) (H : Ev none e 170 140 [some (.ref 633), some (.int i), some (.int 1), c3] [] M v M' 0 0) : (∃ e1 v1 M1, e = e1 + 1 ∧ Ev none e1 179 0 [some (.ref 633), none] [] M v1 M1 0 0 ∧ Ev none e 170 150 [some (.ref 633), some (.int i), some (.int 1), some (.int 1)] (v1.toList ++ []) M1 v M' 0 0) := by
  have H : Ev none e 170 (if 1 = 0 then 155 else 146) [some (.ref 633), some (.int i), some (.int 1), some (.int 1)] [] M v M' 0 0 := Ev.back 4 (fun n => rfl) H
  rw [if_neg (by decide)] at H
  have H : Ev none e 170 147 [some (.ref 633), some (.int i), some (.int 1), some (.int 1)] [.ref 633] M v M' 0 0 := Ev.back 1 (fun n => rfl) H
  obtain ⟨e1, rfl⟩ := Ev.dpos rfl rfl H
  obtain ⟨vK1, MK1, K1, H⟩ := Ev.callb (fun n => gs_7 rfl rfl (show gCal (.invokevirtual 252) 11 (.ref 633 :: []) M = some (.inr (179, [some (.ref 633), none], [])) from by show @cond (Option ((List Value × Mem) ⊕ (Nat × Lo × List Value))) (true && gRecv M (.ref 633) 11 && gRoom [] && true) (some (.inr (179, [some (.ref 633), none], []))) none = _; rw [recv_s hS.1 qa_633 qo_61]; rfl)) H
  have K1 : Ev none e1 179 0 [some (.ref 633), none] [] M vK1 MK1 0 0 := K1
  have HF := H
  exact ⟨e1, vK1, MK1, rfl, K1, HF⟩
theorem rlq1_150 {e : Nat} {M M' : Mem} {v : Option Value} {i y : Int32} {c3 : Option Value} (hS : SQ M) (H : Ev none e 170 150 [some (.ref 633), some (.int i), some (.int 1), c3] [.int y] M v M' 0 0) : (y = 0 ∧ v = some (.int 0) ∧ M' = M) ∨ (¬ (y = 0) ∧ (0 ≤ i.toInt ∧ i.toInt < 128) ∧ v = some (.int 1) ∧ M' = (wI M 644 i.toNatClampNeg (zI M 633 19))) := by
  have H : Ev none e 170 (if y = 0 then 153 else 155) [some (.ref 633), some (.int i), some (.int 1), c3] [] M v M' 0 0 := Ev.back 1 (fun n => rfl) H
  by_cases h1 : y = 0
  · rw [if_pos h1] at H
    have H : Ev none e 170 154 [some (.ref 633), some (.int i), some (.int 1), c3] [.int 0] M v M' 0 0 := Ev.back 1 (fun n => rfl) H
    obtain ⟨z1, z2⟩ := Ev.retz rfl rfl H
    exact Or.inl ⟨h1, z1, z2⟩
  · rw [if_neg h1] at H
    have H : Ev none e 170 156 [some (.ref 633), some (.int i), some (.int 1), c3] [.ref 633] M v M' 0 0 := Ev.back 1 (fun n => rfl) H
    have H : Ev none e 170 159 [some (.ref 633), some (.int i), some (.int 1), c3] [.ref 644] M v M' 0 0 := Ev.back 1 (gs_3 rfl rfl (gf_u hS.1 qa_633 qr_61_14 qu_72 rfl)) H
    have H : Ev none e 170 161 [some (.ref 633), some (.int i), some (.int 1), c3] [.ref 633, .int i, .ref 644] M v M' 0 0 := Ev.back 2 (fun n => rfl) H
    have H : Ev none e 170 164 [some (.ref 633), some (.int i), some (.int 1), c3] [.int (zI M 633 19), .int i, .ref 644] M v M' 0 0 := Ev.back 1 (gs_3 rfl rfl (gf_i hS.1 qa_633 qi_61_19 rfl)) H
    obtain ⟨b2, H⟩ := Ev.ias rfl rfl hS.1 qa_644 qw_72 H
    obtain ⟨N3, eN3⟩ : ∃ N, N = (wI M 644 i.toNatClampNeg (zI M 633 19)) := ⟨_, rfl⟩
    have hN3 : SQ N3 := by rw [eN3]; exact hS.ki
    have H : Ev none e 170 165 [some (.ref 633), some (.int i), some (.int 1), c3] [] N3 v M' 0 0 := by rw [eN3]; exact H
    have H : Ev none e 170 166 [some (.ref 633), some (.int i), some (.int 1), c3] [.int 1] N3 v M' 0 0 := Ev.back 1 (fun n => rfl) H
    obtain ⟨z1, z2⟩ := Ev.retz rfl rfl H
    subst eN3
    exact Or.inr (⟨h1, b2, z1, z2⟩)
theorem rlq2_0 {e : Nat} {M M' : Mem} {v : Option Value} {i : Int32} (hS : SQ M) (H : Ev none e 170 0 [some (.ref 633), some (.int i), some (.int 2), none] [] M v M' 0 0) : (∃ e1 v1 M1, e = e1 + 1 ∧ Ev none e1 167 0 [some (.ref 633), some (.int 1), some (.int 999)] [] M v1 M1 0 0 ∧ Ev none e 170 75 [some (.ref 633), some (.int i), some (.int 2), none] (v1.toList ++ []) M1 v M' 0 0) := by
  have H : Ev none e 170 (if 2 = 5 then 5 else 31) [some (.ref 633), some (.int i), some (.int 2), none] [] M v M' 0 0 := Ev.back 3 (fun n => rfl) H
  rw [if_neg (by decide)] at H
  have H : Ev none e 170 (if 2 = 6 then 90 else 37) [some (.ref 633), some (.int i), some (.int 2), none] [] M v M' 0 0 := Ev.back 3 (fun n => rfl) H
  rw [if_neg (by decide)] at H
  have H : Ev none e 170 (if 2 = 2 then 43 else 47) [some (.ref 633), some (.int i), some (.int 2), none] [.ref 633] M v M' 0 0 := Ev.back 4 (fun n => rfl) H
  rw [if_pos (by decide)] at H
  have H : Ev none e 170 (if 2 = 5 then 53 else 58) [some (.ref 633), some (.int i), some (.int 2), none] [.int 1, .ref 633] M v M' 0 0 := Ev.back 5 (fun n => rfl) H
  rw [if_neg (by decide)] at H
  have H : Ev none e 170 (if 2 = 7 then 64 else 69) [some (.ref 633), some (.int i), some (.int 2), none] [.int 1, .ref 633] M v M' 0 0 := Ev.back 3 (fun n => rfl) H
  rw [if_neg (by decide)] at H
  have H : Ev none e 170 72 [some (.ref 633), some (.int i), some (.int 2), none] [.int 999, .int 1, .ref 633] M v M' 0 0 := Ev.back 1 (fun n => rfl) H
  obtain ⟨e1, rfl⟩ := Ev.dpos rfl rfl H
  obtain ⟨vK1, MK1, K1, H⟩ := Ev.callb (fun n => gs_7 rfl rfl (show gCal (.invokevirtual 240) 11 (.int 999 :: .int 1 :: .ref 633 :: []) M = some (.inr (167, [some (.ref 633), some (.int 1), some (.int 999)], [])) from by show @cond (Option ((List Value × Mem) ⊕ (Nat × Lo × List Value))) (true && gRecv M (.ref 633) 11 && gRoom [] && true) (some (.inr (167, [some (.ref 633), some (.int 1), some (.int 999)], []))) none = _; rw [recv_s hS.1 qa_633 qo_61]; rfl)) H
  have K1 : Ev none e1 167 0 [some (.ref 633), some (.int 1), some (.int 999)] [] M vK1 MK1 0 0 := K1
  have HF := H
  exact ⟨e1, vK1, MK1, rfl, K1, HF⟩
theorem rlq2_75 {e : Nat} {M M' : Mem} {v : Option Value} {i y : Int32} {c3 : Option Value} (hS : SQ M) (H : Ev none e 170 75 [some (.ref 633), some (.int i), some (.int 2), c3] [.int y] M v M' 0 0) : (y = 0 ∧ v = some (.int 0) ∧ M' = M) ∨ (¬ (y = 0) ∧ (0 ≤ i.toInt ∧ i.toInt < 128) ∧ (0 ≤ i.toInt ∧ i.toInt < 128) ∧ (0 ≤ i.toInt ∧ i.toInt < 128) ∧ v = some (.int 1) ∧ M' = (wI (wI (wI M 642 i.toNatClampNeg (zI M 633 32)) 643 i.toNatClampNeg (zI M 633 19)) 644 i.toNatClampNeg (zI M 633 19))) := by
  have H : Ev none e 170 (if y = 0 then 78 else 80) [some (.ref 633), some (.int i), some (.int 2), c3] [] M v M' 0 0 := Ev.back 1 (fun n => rfl) H
  by_cases h1 : y = 0
  · rw [if_pos h1] at H
    have H : Ev none e 170 79 [some (.ref 633), some (.int i), some (.int 2), c3] [.int 0] M v M' 0 0 := Ev.back 1 (fun n => rfl) H
    obtain ⟨z1, z2⟩ := Ev.retz rfl rfl H
    exact Or.inl ⟨h1, z1, z2⟩
  · rw [if_neg h1] at H
    have H : Ev none e 170 81 [some (.ref 633), some (.int i), some (.int 2), c3] [.ref 633] M v M' 0 0 := Ev.back 1 (fun n => rfl) H
    have H : Ev none e 170 84 [some (.ref 633), some (.int i), some (.int 2), c3] [.ref 642] M v M' 0 0 := Ev.back 1 (gs_3 rfl rfl (gf_u hS.1 qa_633 qr_61_12 qu_70 rfl)) H
    have H : Ev none e 170 86 [some (.ref 633), some (.int i), some (.int 2), c3] [.ref 633, .int i, .ref 642] M v M' 0 0 := Ev.back 2 (fun n => rfl) H
    have H : Ev none e 170 89 [some (.ref 633), some (.int i), some (.int 2), c3] [.int (zI M 633 32), .int i, .ref 642] M v M' 0 0 := Ev.back 1 (gs_3 rfl rfl (gf_i hS.1 qa_633 qi_61_32 rfl)) H
    obtain ⟨b2, H⟩ := Ev.ias rfl rfl hS.1 qa_642 qw_70 H
    obtain ⟨N3, eN3⟩ : ∃ N, N = (wI M 642 i.toNatClampNeg (zI M 633 32)) := ⟨_, rfl⟩
    have hN3 : SQ N3 := by rw [eN3]; exact hS.ki
    have H : Ev none e 170 90 [some (.ref 633), some (.int i), some (.int 2), c3] [] N3 v M' 0 0 := by rw [eN3]; exact H
    have H : Ev none e 170 91 [some (.ref 633), some (.int i), some (.int 2), c3] [.ref 633] N3 v M' 0 0 := Ev.back 1 (fun n => rfl) H
    have H : Ev none e 170 94 [some (.ref 633), some (.int i), some (.int 2), c3] [.ref 643] N3 v M' 0 0 := Ev.back 1 (gs_3 rfl rfl (gf_u hN3.1 qa_633 qr_61_13 qu_71 rfl)) H
    have H : Ev none e 170 96 [some (.ref 633), some (.int i), some (.int 2), c3] [.ref 633, .int i, .ref 643] N3 v M' 0 0 := Ev.back 2 (fun n => rfl) H
    have H : Ev none e 170 99 [some (.ref 633), some (.int i), some (.int 2), c3] [.int (zI N3 633 19), .int i, .ref 643] N3 v M' 0 0 := Ev.back 1 (gs_3 rfl rfl (gf_i hN3.1 qa_633 qi_61_19 rfl)) H
    rw [show zI N3 633 19 = zI M 633 19 from by rw [eN3]; exact fI_wI] at H
    obtain ⟨b4, H⟩ := Ev.ias rfl rfl hN3.1 qa_643 qw_71 H
    obtain ⟨N5, eN5⟩ : ∃ N, N = (wI N3 643 i.toNatClampNeg (zI M 633 19)) := ⟨_, rfl⟩
    have hN5 : SQ N5 := by rw [eN5]; exact hN3.ki
    have H : Ev none e 170 100 [some (.ref 633), some (.int i), some (.int 2), c3] [] N5 v M' 0 0 := by rw [eN5]; exact H
    have H : Ev none e 170 (if 2 = 6 then 106 else 110) [some (.ref 633), some (.int i), some (.int 2), c3] [] N5 v M' 0 0 := Ev.back 3 (fun n => rfl) H
    rw [if_neg (by decide)] at H
    have H : Ev none e 170 (if 2 = 0 then 126 else 116) [some (.ref 633), some (.int i), some (.int 2), some (.int 0)] [] N5 v M' 0 0 := Ev.back 4 (fun n => rfl) H
    rw [if_neg (by decide)] at H
    have H : Ev none e 170 (if 2 = 1 then 126 else 121) [some (.ref 633), some (.int i), some (.int 2), some (.int 0)] [] N5 v M' 0 0 := Ev.back 3 (fun n => rfl) H
    rw [if_neg (by decide)] at H
    have H : Ev none e 170 (if 2 = 5 then 126 else 142) [some (.ref 633), some (.int i), some (.int 2), some (.int 0)] [] N5 v M' 0 0 := Ev.back 3 (fun n => rfl) H
    rw [if_neg (by decide)] at H
    have H : Ev none e 170 (if 0 = 0 then 155 else 146) [some (.ref 633), some (.int i), some (.int 2), some (.int 0)] [] N5 v M' 0 0 := Ev.back 2 (fun n => rfl) H
    rw [if_pos (by decide)] at H
    have H : Ev none e 170 156 [some (.ref 633), some (.int i), some (.int 2), some (.int 0)] [.ref 633] N5 v M' 0 0 := Ev.back 1 (fun n => rfl) H
    have H : Ev none e 170 159 [some (.ref 633), some (.int i), some (.int 2), some (.int 0)] [.ref 644] N5 v M' 0 0 := Ev.back 1 (gs_3 rfl rfl (gf_u hN5.1 qa_633 qr_61_14 qu_72 rfl)) H
    have H : Ev none e 170 161 [some (.ref 633), some (.int i), some (.int 2), some (.int 0)] [.ref 633, .int i, .ref 644] N5 v M' 0 0 := Ev.back 2 (fun n => rfl) H
    have H : Ev none e 170 164 [some (.ref 633), some (.int i), some (.int 2), some (.int 0)] [.int (zI N5 633 19), .int i, .ref 644] N5 v M' 0 0 := Ev.back 1 (gs_3 rfl rfl (gf_i hN5.1 qa_633 qi_61_19 rfl)) H
    rw [(show zI N5 633 19 = zI N3 633 19 from by rw [eN5]; exact fI_wI).trans (show zI N3 633 19 = zI M 633 19 from by rw [eN3]; exact fI_wI)] at H
    obtain ⟨b6, H⟩ := Ev.ias rfl rfl hN5.1 qa_644 qw_72 H
    obtain ⟨N7, eN7⟩ : ∃ N, N = (wI N5 644 i.toNatClampNeg (zI M 633 19)) := ⟨_, rfl⟩
    have hN7 : SQ N7 := by rw [eN7]; exact hN5.ki
    have H : Ev none e 170 165 [some (.ref 633), some (.int i), some (.int 2), some (.int 0)] [] N7 v M' 0 0 := by rw [eN7]; exact H
    have H : Ev none e 170 166 [some (.ref 633), some (.int i), some (.int 2), some (.int 0)] [.int 1] N7 v M' 0 0 := Ev.back 1 (fun n => rfl) H
    obtain ⟨z1, z2⟩ := Ev.retz rfl rfl H
    subst eN3 eN5 eN7
    exact Or.inr (⟨h1, b2, b4, b6, z1, z2⟩)
theorem rlq3_0 {e : Nat} {M M' : Mem} {v : Option Value} {i : Int32} (hS : SQ M) (H : Ev none e 170 0 [some (.ref 633), some (.int i), some (.int 3), none] [] M v M' 0 0) : (∃ e1 v1 M1, e = e1 + 1 ∧ Ev none e1 167 0 [some (.ref 633), some (.int 0), some (.int 999)] [] M v1 M1 0 0 ∧ Ev none e 170 75 [some (.ref 633), some (.int i), some (.int 3), none] (v1.toList ++ []) M1 v M' 0 0) := by
  have H : Ev none e 170 (if 3 = 5 then 5 else 31) [some (.ref 633), some (.int i), some (.int 3), none] [] M v M' 0 0 := Ev.back 3 (fun n => rfl) H
  rw [if_neg (by decide)] at H
  have H : Ev none e 170 (if 3 = 6 then 90 else 37) [some (.ref 633), some (.int i), some (.int 3), none] [] M v M' 0 0 := Ev.back 3 (fun n => rfl) H
  rw [if_neg (by decide)] at H
  have H : Ev none e 170 (if 3 = 2 then 43 else 47) [some (.ref 633), some (.int i), some (.int 3), none] [.ref 633] M v M' 0 0 := Ev.back 4 (fun n => rfl) H
  rw [if_neg (by decide)] at H
  have H : Ev none e 170 (if 3 = 5 then 53 else 58) [some (.ref 633), some (.int i), some (.int 3), none] [.int 0, .ref 633] M v M' 0 0 := Ev.back 4 (fun n => rfl) H
  rw [if_neg (by decide)] at H
  have H : Ev none e 170 (if 3 = 7 then 64 else 69) [some (.ref 633), some (.int i), some (.int 3), none] [.int 0, .ref 633] M v M' 0 0 := Ev.back 3 (fun n => rfl) H
  rw [if_neg (by decide)] at H
  have H : Ev none e 170 72 [some (.ref 633), some (.int i), some (.int 3), none] [.int 999, .int 0, .ref 633] M v M' 0 0 := Ev.back 1 (fun n => rfl) H
  obtain ⟨e1, rfl⟩ := Ev.dpos rfl rfl H
  obtain ⟨vK1, MK1, K1, H⟩ := Ev.callb (fun n => gs_7 rfl rfl (show gCal (.invokevirtual 240) 11 (.int 999 :: .int 0 :: .ref 633 :: []) M = some (.inr (167, [some (.ref 633), some (.int 0), some (.int 999)], [])) from by show @cond (Option ((List Value × Mem) ⊕ (Nat × Lo × List Value))) (true && gRecv M (.ref 633) 11 && gRoom [] && true) (some (.inr (167, [some (.ref 633), some (.int 0), some (.int 999)], []))) none = _; rw [recv_s hS.1 qa_633 qo_61]; rfl)) H
  have K1 : Ev none e1 167 0 [some (.ref 633), some (.int 0), some (.int 999)] [] M vK1 MK1 0 0 := K1
  have HF := H
  exact ⟨e1, vK1, MK1, rfl, K1, HF⟩
theorem rlq3_75 {e : Nat} {M M' : Mem} {v : Option Value} {i y : Int32} {c3 : Option Value} (hS : SQ M) (H : Ev none e 170 75 [some (.ref 633), some (.int i), some (.int 3), c3] [.int y] M v M' 0 0) : (y = 0 ∧ v = some (.int 0) ∧ M' = M) ∨ (¬ (y = 0) ∧ (0 ≤ i.toInt ∧ i.toInt < 128) ∧ (0 ≤ i.toInt ∧ i.toInt < 128) ∧ (0 ≤ i.toInt ∧ i.toInt < 128) ∧ v = some (.int 1) ∧ M' = (wI (wI (wI M 642 i.toNatClampNeg (zI M 633 32)) 643 i.toNatClampNeg (zI M 633 19)) 644 i.toNatClampNeg (zI M 633 19))) := by
  have H : Ev none e 170 (if y = 0 then 78 else 80) [some (.ref 633), some (.int i), some (.int 3), c3] [] M v M' 0 0 := Ev.back 1 (fun n => rfl) H
  by_cases h1 : y = 0
  · rw [if_pos h1] at H
    have H : Ev none e 170 79 [some (.ref 633), some (.int i), some (.int 3), c3] [.int 0] M v M' 0 0 := Ev.back 1 (fun n => rfl) H
    obtain ⟨z1, z2⟩ := Ev.retz rfl rfl H
    exact Or.inl ⟨h1, z1, z2⟩
  · rw [if_neg h1] at H
    have H : Ev none e 170 81 [some (.ref 633), some (.int i), some (.int 3), c3] [.ref 633] M v M' 0 0 := Ev.back 1 (fun n => rfl) H
    have H : Ev none e 170 84 [some (.ref 633), some (.int i), some (.int 3), c3] [.ref 642] M v M' 0 0 := Ev.back 1 (gs_3 rfl rfl (gf_u hS.1 qa_633 qr_61_12 qu_70 rfl)) H
    have H : Ev none e 170 86 [some (.ref 633), some (.int i), some (.int 3), c3] [.ref 633, .int i, .ref 642] M v M' 0 0 := Ev.back 2 (fun n => rfl) H
    have H : Ev none e 170 89 [some (.ref 633), some (.int i), some (.int 3), c3] [.int (zI M 633 32), .int i, .ref 642] M v M' 0 0 := Ev.back 1 (gs_3 rfl rfl (gf_i hS.1 qa_633 qi_61_32 rfl)) H
    obtain ⟨b2, H⟩ := Ev.ias rfl rfl hS.1 qa_642 qw_70 H
    obtain ⟨N3, eN3⟩ : ∃ N, N = (wI M 642 i.toNatClampNeg (zI M 633 32)) := ⟨_, rfl⟩
    have hN3 : SQ N3 := by rw [eN3]; exact hS.ki
    have H : Ev none e 170 90 [some (.ref 633), some (.int i), some (.int 3), c3] [] N3 v M' 0 0 := by rw [eN3]; exact H
    have H : Ev none e 170 91 [some (.ref 633), some (.int i), some (.int 3), c3] [.ref 633] N3 v M' 0 0 := Ev.back 1 (fun n => rfl) H
    have H : Ev none e 170 94 [some (.ref 633), some (.int i), some (.int 3), c3] [.ref 643] N3 v M' 0 0 := Ev.back 1 (gs_3 rfl rfl (gf_u hN3.1 qa_633 qr_61_13 qu_71 rfl)) H
    have H : Ev none e 170 96 [some (.ref 633), some (.int i), some (.int 3), c3] [.ref 633, .int i, .ref 643] N3 v M' 0 0 := Ev.back 2 (fun n => rfl) H
    have H : Ev none e 170 99 [some (.ref 633), some (.int i), some (.int 3), c3] [.int (zI N3 633 19), .int i, .ref 643] N3 v M' 0 0 := Ev.back 1 (gs_3 rfl rfl (gf_i hN3.1 qa_633 qi_61_19 rfl)) H
    rw [show zI N3 633 19 = zI M 633 19 from by rw [eN3]; exact fI_wI] at H
    obtain ⟨b4, H⟩ := Ev.ias rfl rfl hN3.1 qa_643 qw_71 H
    obtain ⟨N5, eN5⟩ : ∃ N, N = (wI N3 643 i.toNatClampNeg (zI M 633 19)) := ⟨_, rfl⟩
    have hN5 : SQ N5 := by rw [eN5]; exact hN3.ki
    have H : Ev none e 170 100 [some (.ref 633), some (.int i), some (.int 3), c3] [] N5 v M' 0 0 := by rw [eN5]; exact H
    have H : Ev none e 170 (if 3 = 6 then 106 else 110) [some (.ref 633), some (.int i), some (.int 3), c3] [] N5 v M' 0 0 := Ev.back 3 (fun n => rfl) H
    rw [if_neg (by decide)] at H
    have H : Ev none e 170 (if 3 = 0 then 126 else 116) [some (.ref 633), some (.int i), some (.int 3), some (.int 0)] [] N5 v M' 0 0 := Ev.back 4 (fun n => rfl) H
    rw [if_neg (by decide)] at H
    have H : Ev none e 170 (if 3 = 1 then 126 else 121) [some (.ref 633), some (.int i), some (.int 3), some (.int 0)] [] N5 v M' 0 0 := Ev.back 3 (fun n => rfl) H
    rw [if_neg (by decide)] at H
    have H : Ev none e 170 (if 3 = 5 then 126 else 142) [some (.ref 633), some (.int i), some (.int 3), some (.int 0)] [] N5 v M' 0 0 := Ev.back 3 (fun n => rfl) H
    rw [if_neg (by decide)] at H
    have H : Ev none e 170 (if 0 = 0 then 155 else 146) [some (.ref 633), some (.int i), some (.int 3), some (.int 0)] [] N5 v M' 0 0 := Ev.back 2 (fun n => rfl) H
    rw [if_pos (by decide)] at H
    have H : Ev none e 170 156 [some (.ref 633), some (.int i), some (.int 3), some (.int 0)] [.ref 633] N5 v M' 0 0 := Ev.back 1 (fun n => rfl) H
    have H : Ev none e 170 159 [some (.ref 633), some (.int i), some (.int 3), some (.int 0)] [.ref 644] N5 v M' 0 0 := Ev.back 1 (gs_3 rfl rfl (gf_u hN5.1 qa_633 qr_61_14 qu_72 rfl)) H
    have H : Ev none e 170 161 [some (.ref 633), some (.int i), some (.int 3), some (.int 0)] [.ref 633, .int i, .ref 644] N5 v M' 0 0 := Ev.back 2 (fun n => rfl) H
    have H : Ev none e 170 164 [some (.ref 633), some (.int i), some (.int 3), some (.int 0)] [.int (zI N5 633 19), .int i, .ref 644] N5 v M' 0 0 := Ev.back 1 (gs_3 rfl rfl (gf_i hN5.1 qa_633 qi_61_19 rfl)) H
    rw [(show zI N5 633 19 = zI N3 633 19 from by rw [eN5]; exact fI_wI).trans (show zI N3 633 19 = zI M 633 19 from by rw [eN3]; exact fI_wI)] at H
    obtain ⟨b6, H⟩ := Ev.ias rfl rfl hN5.1 qa_644 qw_72 H
    obtain ⟨N7, eN7⟩ : ∃ N, N = (wI N5 644 i.toNatClampNeg (zI M 633 19)) := ⟨_, rfl⟩
    have hN7 : SQ N7 := by rw [eN7]; exact hN5.ki
    have H : Ev none e 170 165 [some (.ref 633), some (.int i), some (.int 3), some (.int 0)] [] N7 v M' 0 0 := by rw [eN7]; exact H
    have H : Ev none e 170 166 [some (.ref 633), some (.int i), some (.int 3), some (.int 0)] [.int 1] N7 v M' 0 0 := Ev.back 1 (fun n => rfl) H
    obtain ⟨z1, z2⟩ := Ev.retz rfl rfl H
    subst eN3 eN5 eN7
    exact Or.inr (⟨h1, b2, b4, b6, z1, z2⟩)
theorem rlq4_0 {e : Nat} {M M' : Mem} {v : Option Value} {i : Int32} (hS : SQ M) (H : Ev none e 170 0 [some (.ref 633), some (.int i), some (.int 4), none] [] M v M' 0 0) : (∃ e1 v1 M1, e = e1 + 1 ∧ Ev none e1 167 0 [some (.ref 633), some (.int 0), some (.int 999)] [] M v1 M1 0 0 ∧ Ev none e 170 75 [some (.ref 633), some (.int i), some (.int 4), none] (v1.toList ++ []) M1 v M' 0 0) := by
  have H : Ev none e 170 (if 4 = 5 then 5 else 31) [some (.ref 633), some (.int i), some (.int 4), none] [] M v M' 0 0 := Ev.back 3 (fun n => rfl) H
  rw [if_neg (by decide)] at H
  have H : Ev none e 170 (if 4 = 6 then 90 else 37) [some (.ref 633), some (.int i), some (.int 4), none] [] M v M' 0 0 := Ev.back 3 (fun n => rfl) H
  rw [if_neg (by decide)] at H
  have H : Ev none e 170 (if 4 = 2 then 43 else 47) [some (.ref 633), some (.int i), some (.int 4), none] [.ref 633] M v M' 0 0 := Ev.back 4 (fun n => rfl) H
  rw [if_neg (by decide)] at H
  have H : Ev none e 170 (if 4 = 5 then 53 else 58) [some (.ref 633), some (.int i), some (.int 4), none] [.int 0, .ref 633] M v M' 0 0 := Ev.back 4 (fun n => rfl) H
  rw [if_neg (by decide)] at H
  have H : Ev none e 170 (if 4 = 7 then 64 else 69) [some (.ref 633), some (.int i), some (.int 4), none] [.int 0, .ref 633] M v M' 0 0 := Ev.back 3 (fun n => rfl) H
  rw [if_neg (by decide)] at H
  have H : Ev none e 170 72 [some (.ref 633), some (.int i), some (.int 4), none] [.int 999, .int 0, .ref 633] M v M' 0 0 := Ev.back 1 (fun n => rfl) H
  obtain ⟨e1, rfl⟩ := Ev.dpos rfl rfl H
  obtain ⟨vK1, MK1, K1, H⟩ := Ev.callb (fun n => gs_7 rfl rfl (show gCal (.invokevirtual 240) 11 (.int 999 :: .int 0 :: .ref 633 :: []) M = some (.inr (167, [some (.ref 633), some (.int 0), some (.int 999)], [])) from by show @cond (Option ((List Value × Mem) ⊕ (Nat × Lo × List Value))) (true && gRecv M (.ref 633) 11 && gRoom [] && true) (some (.inr (167, [some (.ref 633), some (.int 0), some (.int 999)], []))) none = _; rw [recv_s hS.1 qa_633 qo_61]; rfl)) H
  have K1 : Ev none e1 167 0 [some (.ref 633), some (.int 0), some (.int 999)] [] M vK1 MK1 0 0 := K1
  have HF := H
  exact ⟨e1, vK1, MK1, rfl, K1, HF⟩
theorem rlq4_75 {e : Nat} {M M' : Mem} {v : Option Value} {i y : Int32} {c3 : Option Value} (hS : SQ M) (H : Ev none e 170 75 [some (.ref 633), some (.int i), some (.int 4), c3] [.int y] M v M' 0 0) : (y = 0 ∧ v = some (.int 0) ∧ M' = M) ∨ (¬ (y = 0) ∧ (0 ≤ i.toInt ∧ i.toInt < 128) ∧ (0 ≤ i.toInt ∧ i.toInt < 128) ∧ (0 ≤ i.toInt ∧ i.toInt < 128) ∧ v = some (.int 1) ∧ M' = (wI (wI (wI M 642 i.toNatClampNeg (zI M 633 32)) 643 i.toNatClampNeg (zI M 633 19)) 644 i.toNatClampNeg (zI M 633 19))) := by
  have H : Ev none e 170 (if y = 0 then 78 else 80) [some (.ref 633), some (.int i), some (.int 4), c3] [] M v M' 0 0 := Ev.back 1 (fun n => rfl) H
  by_cases h1 : y = 0
  · rw [if_pos h1] at H
    have H : Ev none e 170 79 [some (.ref 633), some (.int i), some (.int 4), c3] [.int 0] M v M' 0 0 := Ev.back 1 (fun n => rfl) H
    obtain ⟨z1, z2⟩ := Ev.retz rfl rfl H
    exact Or.inl ⟨h1, z1, z2⟩
  · rw [if_neg h1] at H
    have H : Ev none e 170 81 [some (.ref 633), some (.int i), some (.int 4), c3] [.ref 633] M v M' 0 0 := Ev.back 1 (fun n => rfl) H
    have H : Ev none e 170 84 [some (.ref 633), some (.int i), some (.int 4), c3] [.ref 642] M v M' 0 0 := Ev.back 1 (gs_3 rfl rfl (gf_u hS.1 qa_633 qr_61_12 qu_70 rfl)) H
    have H : Ev none e 170 86 [some (.ref 633), some (.int i), some (.int 4), c3] [.ref 633, .int i, .ref 642] M v M' 0 0 := Ev.back 2 (fun n => rfl) H
    have H : Ev none e 170 89 [some (.ref 633), some (.int i), some (.int 4), c3] [.int (zI M 633 32), .int i, .ref 642] M v M' 0 0 := Ev.back 1 (gs_3 rfl rfl (gf_i hS.1 qa_633 qi_61_32 rfl)) H
    obtain ⟨b2, H⟩ := Ev.ias rfl rfl hS.1 qa_642 qw_70 H
    obtain ⟨N3, eN3⟩ : ∃ N, N = (wI M 642 i.toNatClampNeg (zI M 633 32)) := ⟨_, rfl⟩
    have hN3 : SQ N3 := by rw [eN3]; exact hS.ki
    have H : Ev none e 170 90 [some (.ref 633), some (.int i), some (.int 4), c3] [] N3 v M' 0 0 := by rw [eN3]; exact H
    have H : Ev none e 170 91 [some (.ref 633), some (.int i), some (.int 4), c3] [.ref 633] N3 v M' 0 0 := Ev.back 1 (fun n => rfl) H
    have H : Ev none e 170 94 [some (.ref 633), some (.int i), some (.int 4), c3] [.ref 643] N3 v M' 0 0 := Ev.back 1 (gs_3 rfl rfl (gf_u hN3.1 qa_633 qr_61_13 qu_71 rfl)) H
    have H : Ev none e 170 96 [some (.ref 633), some (.int i), some (.int 4), c3] [.ref 633, .int i, .ref 643] N3 v M' 0 0 := Ev.back 2 (fun n => rfl) H
    have H : Ev none e 170 99 [some (.ref 633), some (.int i), some (.int 4), c3] [.int (zI N3 633 19), .int i, .ref 643] N3 v M' 0 0 := Ev.back 1 (gs_3 rfl rfl (gf_i hN3.1 qa_633 qi_61_19 rfl)) H
    rw [show zI N3 633 19 = zI M 633 19 from by rw [eN3]; exact fI_wI] at H
    obtain ⟨b4, H⟩ := Ev.ias rfl rfl hN3.1 qa_643 qw_71 H
    obtain ⟨N5, eN5⟩ : ∃ N, N = (wI N3 643 i.toNatClampNeg (zI M 633 19)) := ⟨_, rfl⟩
    have hN5 : SQ N5 := by rw [eN5]; exact hN3.ki
    have H : Ev none e 170 100 [some (.ref 633), some (.int i), some (.int 4), c3] [] N5 v M' 0 0 := by rw [eN5]; exact H
    have H : Ev none e 170 (if 4 = 6 then 106 else 110) [some (.ref 633), some (.int i), some (.int 4), c3] [] N5 v M' 0 0 := Ev.back 3 (fun n => rfl) H
    rw [if_neg (by decide)] at H
    have H : Ev none e 170 (if 4 = 0 then 126 else 116) [some (.ref 633), some (.int i), some (.int 4), some (.int 0)] [] N5 v M' 0 0 := Ev.back 4 (fun n => rfl) H
    rw [if_neg (by decide)] at H
    have H : Ev none e 170 (if 4 = 1 then 126 else 121) [some (.ref 633), some (.int i), some (.int 4), some (.int 0)] [] N5 v M' 0 0 := Ev.back 3 (fun n => rfl) H
    rw [if_neg (by decide)] at H
    have H : Ev none e 170 (if 4 = 5 then 126 else 142) [some (.ref 633), some (.int i), some (.int 4), some (.int 0)] [] N5 v M' 0 0 := Ev.back 3 (fun n => rfl) H
    rw [if_neg (by decide)] at H
    have H : Ev none e 170 (if 0 = 0 then 155 else 146) [some (.ref 633), some (.int i), some (.int 4), some (.int 0)] [] N5 v M' 0 0 := Ev.back 2 (fun n => rfl) H
    rw [if_pos (by decide)] at H
    have H : Ev none e 170 156 [some (.ref 633), some (.int i), some (.int 4), some (.int 0)] [.ref 633] N5 v M' 0 0 := Ev.back 1 (fun n => rfl) H
    have H : Ev none e 170 159 [some (.ref 633), some (.int i), some (.int 4), some (.int 0)] [.ref 644] N5 v M' 0 0 := Ev.back 1 (gs_3 rfl rfl (gf_u hN5.1 qa_633 qr_61_14 qu_72 rfl)) H
    have H : Ev none e 170 161 [some (.ref 633), some (.int i), some (.int 4), some (.int 0)] [.ref 633, .int i, .ref 644] N5 v M' 0 0 := Ev.back 2 (fun n => rfl) H
    have H : Ev none e 170 164 [some (.ref 633), some (.int i), some (.int 4), some (.int 0)] [.int (zI N5 633 19), .int i, .ref 644] N5 v M' 0 0 := Ev.back 1 (gs_3 rfl rfl (gf_i hN5.1 qa_633 qi_61_19 rfl)) H
    rw [(show zI N5 633 19 = zI N3 633 19 from by rw [eN5]; exact fI_wI).trans (show zI N3 633 19 = zI M 633 19 from by rw [eN3]; exact fI_wI)] at H
    obtain ⟨b6, H⟩ := Ev.ias rfl rfl hN5.1 qa_644 qw_72 H
    obtain ⟨N7, eN7⟩ : ∃ N, N = (wI N5 644 i.toNatClampNeg (zI M 633 19)) := ⟨_, rfl⟩
    have hN7 : SQ N7 := by rw [eN7]; exact hN5.ki
    have H : Ev none e 170 165 [some (.ref 633), some (.int i), some (.int 4), some (.int 0)] [] N7 v M' 0 0 := by rw [eN7]; exact H
    have H : Ev none e 170 166 [some (.ref 633), some (.int i), some (.int 4), some (.int 0)] [.int 1] N7 v M' 0 0 := Ev.back 1 (fun n => rfl) H
    obtain ⟨z1, z2⟩ := Ev.retz rfl rfl H
    subst eN3 eN5 eN7
    exact Or.inr (⟨h1, b2, b4, b6, z1, z2⟩)
theorem rlq5_0 {e : Nat} {M M' : Mem} {v : Option Value} {i : Int32} (hS : SQ M) (H : Ev none e 170 0 [some (.ref 633), some (.int i), some (.int 5), none] [] M v M' 0 0) : (0 ≤ (G_171 M) ∧ (0 ≤ i.toInt ∧ i.toInt < 128) ∧ (∃ e1 v1 M1, e = e1 + 1 ∧ Ev none e1 162 0 [some (.ref 633), none, none, none] [] (wI M 641 i.toNatClampNeg (G_171 M)) v1 M1 0 0 ∧ Ev none e 170 31 [some (.ref 633), some (.int i), some (.int 5), some (.int (G_171 M))] (v1.toList ++ []) M1 v M' 0 0)) ∨ (¬ (0 ≤ (G_171 M)) ∧ (∃ e1 v1 M1, e = e1 + 1 ∧ Ev none e1 163 0 [some (.ref 633), some (.int 1)] [] M v1 M1 0 0 ∧ Ev none e 170 19 [some (.ref 633), some (.int i), some (.int 5), some (.int (G_171 M))] (v1.toList ++ []) M1 v M' 0 0)) := by
  have H : Ev none e 170 (if 5 = 5 then 5 else 31) [some (.ref 633), some (.int i), some (.int 5), none] [] M v M' 0 0 := Ev.back 3 (fun n => rfl) H
  rw [if_pos (by decide)] at H
  have H : Ev none e 170 6 [some (.ref 633), some (.int i), some (.int 5), none] [.ref 633] M v M' 0 0 := Ev.back 1 (fun n => rfl) H
  obtain ⟨e1, rfl⟩ := Ev.dpos rfl rfl H
  obtain ⟨vK1, MK1, K1, H⟩ := Ev.callb (fun n => gs_7 rfl rfl (show gCal (.invokevirtual 237) 11 (.ref 633 :: []) M = some (.inr (171, [some (.ref 633)], [])) from by show @cond (Option ((List Value × Mem) ⊕ (Nat × Lo × List Value))) (true && gRecv M (.ref 633) 11 && gRoom [] && true) (some (.inr (171, [some (.ref 633)], []))) none = _; rw [recv_s hS.1 qa_633 qo_61]; rfl)) H
  obtain ⟨pK1, qK1⟩ := g_171 hS K1
  rw [pK1, qK1] at H
  have H : Ev none (e1 + 1) 170 9 [some (.ref 633), some (.int i), some (.int 5), none] [.int (G_171 M)] M v M' 0 0 := H
  have H : Ev none (e1 + 1) 170 (if 0 ≤ (G_171 M) then 20 else 14) [some (.ref 633), some (.int i), some (.int 5), some (.int (G_171 M))] [] M v M' 0 0 := Ev.back 3 (fun n => rfl) H
  by_cases h2 : 0 ≤ (G_171 M)
  · rw [if_pos h2] at H
    have H : Ev none (e1 + 1) 170 21 [some (.ref 633), some (.int i), some (.int 5), some (.int (G_171 M))] [.ref 633] M v M' 0 0 := Ev.back 1 (fun n => rfl) H
    have H : Ev none (e1 + 1) 170 24 [some (.ref 633), some (.int i), some (.int 5), some (.int (G_171 M))] [.ref 641] M v M' 0 0 := Ev.back 1 (gs_3 rfl rfl (gf_u hS.1 qa_633 qr_61_11 qu_69 rfl)) H
    have H : Ev none (e1 + 1) 170 26 [some (.ref 633), some (.int i), some (.int 5), some (.int (G_171 M))] [.int (G_171 M), .int i, .ref 641] M v M' 0 0 := Ev.back 2 (fun n => rfl) H
    obtain ⟨b3, H⟩ := Ev.ias rfl rfl hS.1 qa_641 qw_69 H
    obtain ⟨N4, eN4⟩ : ∃ N, N = (wI M 641 i.toNatClampNeg (G_171 M)) := ⟨_, rfl⟩
    have hN4 : SQ N4 := by rw [eN4]; exact hS.ki
    have H : Ev none (e1 + 1) 170 27 [some (.ref 633), some (.int i), some (.int 5), some (.int (G_171 M))] [] N4 v M' 0 0 := by rw [eN4]; exact H
    have H : Ev none (e1 + 1) 170 28 [some (.ref 633), some (.int i), some (.int 5), some (.int (G_171 M))] [.ref 633] N4 v M' 0 0 := Ev.back 1 (fun n => rfl) H
    obtain ⟨vK5, MK5, K5, H⟩ := Ev.callb (fun n => gs_7 rfl rfl (show gCal (.invokevirtual 201) 11 (.ref 633 :: []) N4 = some (.inr (162, [some (.ref 633), none, none, none], [])) from by show @cond (Option ((List Value × Mem) ⊕ (Nat × Lo × List Value))) (true && gRecv N4 (.ref 633) 11 && gRoom [] && true) (some (.inr (162, [some (.ref 633), none, none, none], []))) none = _; rw [recv_s hN4.1 qa_633 qo_61]; rfl)) H
    have K5 : Ev none e1 162 0 [some (.ref 633), none, none, none] [] N4 vK5 MK5 0 0 := K5
    have HF := H
    subst eN4
    exact Or.inl ⟨h2, b3, ⟨e1, vK5, MK5, rfl, K5, HF⟩⟩
  · rw [if_neg h2] at H
    have H : Ev none (e1 + 1) 170 16 [some (.ref 633), some (.int i), some (.int 5), some (.int (G_171 M))] [.int 1, .ref 633] M v M' 0 0 := Ev.back 2 (fun n => rfl) H
    obtain ⟨vK6, MK6, K6, H⟩ := Ev.callb (fun n => gs_7 rfl rfl (show gCal (.invokevirtual 198) 11 (.int 1 :: .ref 633 :: []) M = some (.inr (163, [some (.ref 633), some (.int 1)], [])) from by show @cond (Option ((List Value × Mem) ⊕ (Nat × Lo × List Value))) (true && gRecv M (.ref 633) 11 && gRoom [] && true) (some (.inr (163, [some (.ref 633), some (.int 1)], []))) none = _; rw [recv_s hS.1 qa_633 qo_61]; rfl)) H
    have K6 : Ev none e1 163 0 [some (.ref 633), some (.int 1)] [] M vK6 MK6 0 0 := K6
    have HF := H
    exact Or.inr (⟨h2, ⟨e1, vK6, MK6, rfl, K6, HF⟩⟩)
theorem rlq5_31 {e : Nat} {M M' : Mem} {v : Option Value} {i : Int32} {c3 : Option Value} (hS : SQ M) (H : Ev none e 170 31 [some (.ref 633), some (.int i), some (.int 5), c3] [] M v M' 0 0) : (∃ e1 v1 M1, e = e1 + 1 ∧ Ev none e1 167 0 [some (.ref 633), some (.int 0), some (.int 99)] [] M v1 M1 0 0 ∧ Ev none e 170 75 [some (.ref 633), some (.int i), some (.int 5), c3] (v1.toList ++ []) M1 v M' 0 0) := by
  have H : Ev none e 170 (if 5 = 6 then 90 else 37) [some (.ref 633), some (.int i), some (.int 5), c3] [] M v M' 0 0 := Ev.back 3 (fun n => rfl) H
  rw [if_neg (by decide)] at H
  have H : Ev none e 170 (if 5 = 2 then 43 else 47) [some (.ref 633), some (.int i), some (.int 5), c3] [.ref 633] M v M' 0 0 := Ev.back 4 (fun n => rfl) H
  rw [if_neg (by decide)] at H
  have H : Ev none e 170 (if 5 = 5 then 53 else 58) [some (.ref 633), some (.int i), some (.int 5), c3] [.int 0, .ref 633] M v M' 0 0 := Ev.back 4 (fun n => rfl) H
  rw [if_pos (by decide)] at H
  have H : Ev none e 170 72 [some (.ref 633), some (.int i), some (.int 5), c3] [.int 99, .int 0, .ref 633] M v M' 0 0 := Ev.back 2 (fun n => rfl) H
  obtain ⟨e1, rfl⟩ := Ev.dpos rfl rfl H
  obtain ⟨vK1, MK1, K1, H⟩ := Ev.callb (fun n => gs_7 rfl rfl (show gCal (.invokevirtual 240) 11 (.int 99 :: .int 0 :: .ref 633 :: []) M = some (.inr (167, [some (.ref 633), some (.int 0), some (.int 99)], [])) from by show @cond (Option ((List Value × Mem) ⊕ (Nat × Lo × List Value))) (true && gRecv M (.ref 633) 11 && gRoom [] && true) (some (.inr (167, [some (.ref 633), some (.int 0), some (.int 99)], []))) none = _; rw [recv_s hS.1 qa_633 qo_61]; rfl)) H
  have K1 : Ev none e1 167 0 [some (.ref 633), some (.int 0), some (.int 99)] [] M vK1 MK1 0 0 := K1
  have HF := H
  exact ⟨e1, vK1, MK1, rfl, K1, HF⟩
theorem rlq5_75 {e : Nat} {M M' : Mem} {v : Option Value} {i y : Int32} {c3 : Option Value} (hS : SQ M) (H : Ev none e 170 75 [some (.ref 633), some (.int i), some (.int 5), c3] [.int y] M v M' 0 0) : (y = 0 ∧ v = some (.int 0) ∧ M' = M) ∨ (¬ (y = 0) ∧ (G_164 (wI (wI M 642 i.toNatClampNeg (zI M 633 32)) 643 i.toNatClampNeg (zI M 633 19)) 26982) = 0 ∧ (0 ≤ i.toInt ∧ i.toInt < 128) ∧ (0 ≤ i.toInt ∧ i.toInt < 128) ∧ (0 ≤ i.toInt ∧ i.toInt < 128) ∧ v = some (.int 1) ∧ M' = (wI (wI (wI M 642 i.toNatClampNeg (zI M 633 32)) 643 i.toNatClampNeg (zI M 633 19)) 644 i.toNatClampNeg (zI M 633 19))) ∨ (¬ (y = 0) ∧ ¬ ((G_164 (wI (wI M 642 i.toNatClampNeg (zI M 633 32)) 643 i.toNatClampNeg (zI M 633 19)) 26982) = 0) ∧ (0 ≤ i.toInt ∧ i.toInt < 128) ∧ (0 ≤ i.toInt ∧ i.toInt < 128) ∧ (∃ e1 v1 M1, e = e1 + 1 ∧ Ev none e1 162 0 [some (.ref 633), none, none, none] [] (wI (wI M 642 i.toNatClampNeg (zI M 633 32)) 643 i.toNatClampNeg (zI M 633 19)) v1 M1 0 0 ∧ Ev none e 170 140 [some (.ref 633), some (.int i), some (.int 5), some (.int 0)] (v1.toList ++ []) M1 v M' 0 0)) := by
  have H : Ev none e 170 (if y = 0 then 78 else 80) [some (.ref 633), some (.int i), some (.int 5), c3] [] M v M' 0 0 := Ev.back 1 (fun n => rfl) H
  by_cases h1 : y = 0
  · rw [if_pos h1] at H
    have H : Ev none e 170 79 [some (.ref 633), some (.int i), some (.int 5), c3] [.int 0] M v M' 0 0 := Ev.back 1 (fun n => rfl) H
    obtain ⟨z1, z2⟩ := Ev.retz rfl rfl H
    exact Or.inl ⟨h1, z1, z2⟩
  · rw [if_neg h1] at H
    have H : Ev none e 170 81 [some (.ref 633), some (.int i), some (.int 5), c3] [.ref 633] M v M' 0 0 := Ev.back 1 (fun n => rfl) H
    have H : Ev none e 170 84 [some (.ref 633), some (.int i), some (.int 5), c3] [.ref 642] M v M' 0 0 := Ev.back 1 (gs_3 rfl rfl (gf_u hS.1 qa_633 qr_61_12 qu_70 rfl)) H
    have H : Ev none e 170 86 [some (.ref 633), some (.int i), some (.int 5), c3] [.ref 633, .int i, .ref 642] M v M' 0 0 := Ev.back 2 (fun n => rfl) H
    have H : Ev none e 170 89 [some (.ref 633), some (.int i), some (.int 5), c3] [.int (zI M 633 32), .int i, .ref 642] M v M' 0 0 := Ev.back 1 (gs_3 rfl rfl (gf_i hS.1 qa_633 qi_61_32 rfl)) H
    obtain ⟨b2, H⟩ := Ev.ias rfl rfl hS.1 qa_642 qw_70 H
    obtain ⟨N3, eN3⟩ : ∃ N, N = (wI M 642 i.toNatClampNeg (zI M 633 32)) := ⟨_, rfl⟩
    have hN3 : SQ N3 := by rw [eN3]; exact hS.ki
    have H : Ev none e 170 90 [some (.ref 633), some (.int i), some (.int 5), c3] [] N3 v M' 0 0 := by rw [eN3]; exact H
    have H : Ev none e 170 91 [some (.ref 633), some (.int i), some (.int 5), c3] [.ref 633] N3 v M' 0 0 := Ev.back 1 (fun n => rfl) H
    have H : Ev none e 170 94 [some (.ref 633), some (.int i), some (.int 5), c3] [.ref 643] N3 v M' 0 0 := Ev.back 1 (gs_3 rfl rfl (gf_u hN3.1 qa_633 qr_61_13 qu_71 rfl)) H
    have H : Ev none e 170 96 [some (.ref 633), some (.int i), some (.int 5), c3] [.ref 633, .int i, .ref 643] N3 v M' 0 0 := Ev.back 2 (fun n => rfl) H
    have H : Ev none e 170 99 [some (.ref 633), some (.int i), some (.int 5), c3] [.int (zI N3 633 19), .int i, .ref 643] N3 v M' 0 0 := Ev.back 1 (gs_3 rfl rfl (gf_i hN3.1 qa_633 qi_61_19 rfl)) H
    rw [show zI N3 633 19 = zI M 633 19 from by rw [eN3]; exact fI_wI] at H
    obtain ⟨b4, H⟩ := Ev.ias rfl rfl hN3.1 qa_643 qw_71 H
    obtain ⟨N5, eN5⟩ : ∃ N, N = (wI N3 643 i.toNatClampNeg (zI M 633 19)) := ⟨_, rfl⟩
    have hN5 : SQ N5 := by rw [eN5]; exact hN3.ki
    have H : Ev none e 170 100 [some (.ref 633), some (.int i), some (.int 5), c3] [] N5 v M' 0 0 := by rw [eN5]; exact H
    have H : Ev none e 170 (if 5 = 6 then 106 else 110) [some (.ref 633), some (.int i), some (.int 5), c3] [] N5 v M' 0 0 := Ev.back 3 (fun n => rfl) H
    rw [if_neg (by decide)] at H
    have H : Ev none e 170 (if 5 = 0 then 126 else 116) [some (.ref 633), some (.int i), some (.int 5), some (.int 0)] [] N5 v M' 0 0 := Ev.back 4 (fun n => rfl) H
    rw [if_neg (by decide)] at H
    have H : Ev none e 170 (if 5 = 1 then 126 else 121) [some (.ref 633), some (.int i), some (.int 5), some (.int 0)] [] N5 v M' 0 0 := Ev.back 3 (fun n => rfl) H
    rw [if_neg (by decide)] at H
    have H : Ev none e 170 (if 5 = 5 then 126 else 142) [some (.ref 633), some (.int i), some (.int 5), some (.int 0)] [] N5 v M' 0 0 := Ev.back 3 (fun n => rfl) H
    rw [if_pos (by decide)] at H
    have H : Ev none e 170 130 [some (.ref 633), some (.int i), some (.int 5), some (.int 0)] [.long 26982, .ref 633] N5 v M' 0 0 := Ev.back 2 (fun n => rfl) H
    obtain ⟨e1, rfl⟩ := Ev.dpos rfl rfl H
    obtain ⟨vK6, MK6, K6, H⟩ := Ev.callb (fun n => gs_7 rfl rfl (show gCal (.invokevirtual 248) 11 (.long 26982 :: .ref 633 :: []) N5 = some (.inr (164, [some (.ref 633), some (.long 26982), none], [])) from by show @cond (Option ((List Value × Mem) ⊕ (Nat × Lo × List Value))) (true && gRecv N5 (.ref 633) 11 && gRoom [] && true) (some (.inr (164, [some (.ref 633), some (.long 26982), none], []))) none = _; rw [recv_s hN5.1 qa_633 qo_61]; rfl)) H
    obtain ⟨pK6, qK6⟩ := g_164 hN5 K6
    rw [pK6, qK6] at H
    have H : Ev none (e1 + 1) 170 133 [some (.ref 633), some (.int i), some (.int 5), some (.int 0)] [.int (G_164 N5 26982)] N5 v M' 0 0 := H
    have H : Ev none (e1 + 1) 170 (if (G_164 N5 26982) = 0 then 142 else 136) [some (.ref 633), some (.int i), some (.int 5), some (.int 0)] [] N5 v M' 0 0 := Ev.back 1 (fun n => rfl) H
    by_cases h7 : (G_164 N5 26982) = 0
    · rw [if_pos h7] at H
      have H : Ev none (e1 + 1) 170 (if 0 = 0 then 155 else 146) [some (.ref 633), some (.int i), some (.int 5), some (.int 0)] [] N5 v M' 0 0 := Ev.back 2 (fun n => rfl) H
      rw [if_pos (by decide)] at H
      have H : Ev none (e1 + 1) 170 156 [some (.ref 633), some (.int i), some (.int 5), some (.int 0)] [.ref 633] N5 v M' 0 0 := Ev.back 1 (fun n => rfl) H
      have H : Ev none (e1 + 1) 170 159 [some (.ref 633), some (.int i), some (.int 5), some (.int 0)] [.ref 644] N5 v M' 0 0 := Ev.back 1 (gs_3 rfl rfl (gf_u hN5.1 qa_633 qr_61_14 qu_72 rfl)) H
      have H : Ev none (e1 + 1) 170 161 [some (.ref 633), some (.int i), some (.int 5), some (.int 0)] [.ref 633, .int i, .ref 644] N5 v M' 0 0 := Ev.back 2 (fun n => rfl) H
      have H : Ev none (e1 + 1) 170 164 [some (.ref 633), some (.int i), some (.int 5), some (.int 0)] [.int (zI N5 633 19), .int i, .ref 644] N5 v M' 0 0 := Ev.back 1 (gs_3 rfl rfl (gf_i hN5.1 qa_633 qi_61_19 rfl)) H
      rw [(show zI N5 633 19 = zI N3 633 19 from by rw [eN5]; exact fI_wI).trans (show zI N3 633 19 = zI M 633 19 from by rw [eN3]; exact fI_wI)] at H
      obtain ⟨b8, H⟩ := Ev.ias rfl rfl hN5.1 qa_644 qw_72 H
      obtain ⟨N9, eN9⟩ : ∃ N, N = (wI N5 644 i.toNatClampNeg (zI M 633 19)) := ⟨_, rfl⟩
      have hN9 : SQ N9 := by rw [eN9]; exact hN5.ki
      have H : Ev none (e1 + 1) 170 165 [some (.ref 633), some (.int i), some (.int 5), some (.int 0)] [] N9 v M' 0 0 := by rw [eN9]; exact H
      have H : Ev none (e1 + 1) 170 166 [some (.ref 633), some (.int i), some (.int 5), some (.int 0)] [.int 1] N9 v M' 0 0 := Ev.back 1 (fun n => rfl) H
      obtain ⟨z1, z2⟩ := Ev.retz rfl rfl H
      subst eN3 eN5 eN9
      exact Or.inr (Or.inl ⟨h1, h7, b2, b4, b8, z1, z2⟩)
    · rw [if_neg h7] at H
      have H : Ev none (e1 + 1) 170 137 [some (.ref 633), some (.int i), some (.int 5), some (.int 0)] [.ref 633] N5 v M' 0 0 := Ev.back 1 (fun n => rfl) H
      obtain ⟨vK10, MK10, K10, H⟩ := Ev.callb (fun n => gs_7 rfl rfl (show gCal (.invokevirtual 201) 11 (.ref 633 :: []) N5 = some (.inr (162, [some (.ref 633), none, none, none], [])) from by show @cond (Option ((List Value × Mem) ⊕ (Nat × Lo × List Value))) (true && gRecv N5 (.ref 633) 11 && gRoom [] && true) (some (.inr (162, [some (.ref 633), none, none, none], []))) none = _; rw [recv_s hN5.1 qa_633 qo_61]; rfl)) H
      have K10 : Ev none e1 162 0 [some (.ref 633), none, none, none] [] N5 vK10 MK10 0 0 := K10
      have HF := H
      subst eN3 eN5
      exact Or.inr (Or.inr (⟨h1, h7, b2, b4, ⟨e1, vK10, MK10, rfl, K10, HF⟩⟩))
theorem rlq5_140 {e : Nat} {M M' : Mem} {v : Option Value} {i : Int32} {c3 : Option Value} (hS : SQ M) (H : Ev none e 170 140 [some (.ref 633), some (.int i), some (.int 5), c3] [] M v M' 0 0) : (∃ e1 v1 M1, e = e1 + 1 ∧ Ev none e1 179 0 [some (.ref 633), none] [] M v1 M1 0 0 ∧ Ev none e 170 150 [some (.ref 633), some (.int i), some (.int 5), some (.int 1)] (v1.toList ++ []) M1 v M' 0 0) := by
  have H : Ev none e 170 (if 1 = 0 then 155 else 146) [some (.ref 633), some (.int i), some (.int 5), some (.int 1)] [] M v M' 0 0 := Ev.back 4 (fun n => rfl) H
  rw [if_neg (by decide)] at H
  have H : Ev none e 170 147 [some (.ref 633), some (.int i), some (.int 5), some (.int 1)] [.ref 633] M v M' 0 0 := Ev.back 1 (fun n => rfl) H
  obtain ⟨e1, rfl⟩ := Ev.dpos rfl rfl H
  obtain ⟨vK1, MK1, K1, H⟩ := Ev.callb (fun n => gs_7 rfl rfl (show gCal (.invokevirtual 252) 11 (.ref 633 :: []) M = some (.inr (179, [some (.ref 633), none], [])) from by show @cond (Option ((List Value × Mem) ⊕ (Nat × Lo × List Value))) (true && gRecv M (.ref 633) 11 && gRoom [] && true) (some (.inr (179, [some (.ref 633), none], []))) none = _; rw [recv_s hS.1 qa_633 qo_61]; rfl)) H
  have K1 : Ev none e1 179 0 [some (.ref 633), none] [] M vK1 MK1 0 0 := K1
  have HF := H
  exact ⟨e1, vK1, MK1, rfl, K1, HF⟩
theorem rlq5_150 {e : Nat} {M M' : Mem} {v : Option Value} {i y : Int32} {c3 : Option Value} (hS : SQ M) (H : Ev none e 170 150 [some (.ref 633), some (.int i), some (.int 5), c3] [.int y] M v M' 0 0) : (y = 0 ∧ v = some (.int 0) ∧ M' = M) ∨ (¬ (y = 0) ∧ (0 ≤ i.toInt ∧ i.toInt < 128) ∧ v = some (.int 1) ∧ M' = (wI M 644 i.toNatClampNeg (zI M 633 19))) := by
  have H : Ev none e 170 (if y = 0 then 153 else 155) [some (.ref 633), some (.int i), some (.int 5), c3] [] M v M' 0 0 := Ev.back 1 (fun n => rfl) H
  by_cases h1 : y = 0
  · rw [if_pos h1] at H
    have H : Ev none e 170 154 [some (.ref 633), some (.int i), some (.int 5), c3] [.int 0] M v M' 0 0 := Ev.back 1 (fun n => rfl) H
    obtain ⟨z1, z2⟩ := Ev.retz rfl rfl H
    exact Or.inl ⟨h1, z1, z2⟩
  · rw [if_neg h1] at H
    have H : Ev none e 170 156 [some (.ref 633), some (.int i), some (.int 5), c3] [.ref 633] M v M' 0 0 := Ev.back 1 (fun n => rfl) H
    have H : Ev none e 170 159 [some (.ref 633), some (.int i), some (.int 5), c3] [.ref 644] M v M' 0 0 := Ev.back 1 (gs_3 rfl rfl (gf_u hS.1 qa_633 qr_61_14 qu_72 rfl)) H
    have H : Ev none e 170 161 [some (.ref 633), some (.int i), some (.int 5), c3] [.ref 633, .int i, .ref 644] M v M' 0 0 := Ev.back 2 (fun n => rfl) H
    have H : Ev none e 170 164 [some (.ref 633), some (.int i), some (.int 5), c3] [.int (zI M 633 19), .int i, .ref 644] M v M' 0 0 := Ev.back 1 (gs_3 rfl rfl (gf_i hS.1 qa_633 qi_61_19 rfl)) H
    obtain ⟨b2, H⟩ := Ev.ias rfl rfl hS.1 qa_644 qw_72 H
    obtain ⟨N3, eN3⟩ : ∃ N, N = (wI M 644 i.toNatClampNeg (zI M 633 19)) := ⟨_, rfl⟩
    have hN3 : SQ N3 := by rw [eN3]; exact hS.ki
    have H : Ev none e 170 165 [some (.ref 633), some (.int i), some (.int 5), c3] [] N3 v M' 0 0 := by rw [eN3]; exact H
    have H : Ev none e 170 166 [some (.ref 633), some (.int i), some (.int 5), c3] [.int 1] N3 v M' 0 0 := Ev.back 1 (fun n => rfl) H
    obtain ⟨z1, z2⟩ := Ev.retz rfl rfl H
    subst eN3
    exact Or.inr (⟨h1, b2, z1, z2⟩)
theorem rlq6_0 {e : Nat} {M M' : Mem} {v : Option Value} {i : Int32} (hS : SQ M) (H : Ev none e 170 0 [some (.ref 633), some (.int i), some (.int 6), none] [] M v M' 0 0) : (0 ≤ i.toInt ∧ i.toInt < 128) ∧ (∃ e1 v1 M1, e = e1 + 1 ∧ Ev none e1 179 0 [some (.ref 633), none] [] (wI M 643 i.toNatClampNeg (zI M 633 19)) v1 M1 0 0 ∧ Ev none e 170 150 [some (.ref 633), some (.int i), some (.int 6), some (.int 1)] (v1.toList ++ []) M1 v M' 0 0) := by
  have H : Ev none e 170 (if 6 = 5 then 5 else 31) [some (.ref 633), some (.int i), some (.int 6), none] [] M v M' 0 0 := Ev.back 3 (fun n => rfl) H
  rw [if_neg (by decide)] at H
  have H : Ev none e 170 (if 6 = 6 then 90 else 37) [some (.ref 633), some (.int i), some (.int 6), none] [] M v M' 0 0 := Ev.back 3 (fun n => rfl) H
  rw [if_pos (by decide)] at H
  have H : Ev none e 170 91 [some (.ref 633), some (.int i), some (.int 6), none] [.ref 633] M v M' 0 0 := Ev.back 1 (fun n => rfl) H
  have H : Ev none e 170 94 [some (.ref 633), some (.int i), some (.int 6), none] [.ref 643] M v M' 0 0 := Ev.back 1 (gs_3 rfl rfl (gf_u hS.1 qa_633 qr_61_13 qu_71 rfl)) H
  have H : Ev none e 170 96 [some (.ref 633), some (.int i), some (.int 6), none] [.ref 633, .int i, .ref 643] M v M' 0 0 := Ev.back 2 (fun n => rfl) H
  have H : Ev none e 170 99 [some (.ref 633), some (.int i), some (.int 6), none] [.int (zI M 633 19), .int i, .ref 643] M v M' 0 0 := Ev.back 1 (gs_3 rfl rfl (gf_i hS.1 qa_633 qi_61_19 rfl)) H
  obtain ⟨b1, H⟩ := Ev.ias rfl rfl hS.1 qa_643 qw_71 H
  obtain ⟨N2, eN2⟩ : ∃ N, N = (wI M 643 i.toNatClampNeg (zI M 633 19)) := ⟨_, rfl⟩
  have hN2 : SQ N2 := by rw [eN2]; exact hS.ki
  have H : Ev none e 170 100 [some (.ref 633), some (.int i), some (.int 6), none] [] N2 v M' 0 0 := by rw [eN2]; exact H
  have H : Ev none e 170 (if 6 = 6 then 106 else 110) [some (.ref 633), some (.int i), some (.int 6), none] [] N2 v M' 0 0 := Ev.back 3 (fun n => rfl) H
  rw [if_pos (by decide)] at H
  have H : Ev none e 170 (if 6 = 0 then 126 else 116) [some (.ref 633), some (.int i), some (.int 6), some (.int 1)] [] N2 v M' 0 0 := Ev.back 5 (fun n => rfl) H
  rw [if_neg (by decide)] at H
  have H : Ev none e 170 (if 6 = 1 then 126 else 121) [some (.ref 633), some (.int i), some (.int 6), some (.int 1)] [] N2 v M' 0 0 := Ev.back 3 (fun n => rfl) H
  rw [if_neg (by decide)] at H
  have H : Ev none e 170 (if 6 = 5 then 126 else 142) [some (.ref 633), some (.int i), some (.int 6), some (.int 1)] [] N2 v M' 0 0 := Ev.back 3 (fun n => rfl) H
  rw [if_neg (by decide)] at H
  have H : Ev none e 170 (if 1 = 0 then 155 else 146) [some (.ref 633), some (.int i), some (.int 6), some (.int 1)] [] N2 v M' 0 0 := Ev.back 2 (fun n => rfl) H
  rw [if_neg (by decide)] at H
  have H : Ev none e 170 147 [some (.ref 633), some (.int i), some (.int 6), some (.int 1)] [.ref 633] N2 v M' 0 0 := Ev.back 1 (fun n => rfl) H
  obtain ⟨e1, rfl⟩ := Ev.dpos rfl rfl H
  obtain ⟨vK3, MK3, K3, H⟩ := Ev.callb (fun n => gs_7 rfl rfl (show gCal (.invokevirtual 252) 11 (.ref 633 :: []) N2 = some (.inr (179, [some (.ref 633), none], [])) from by show @cond (Option ((List Value × Mem) ⊕ (Nat × Lo × List Value))) (true && gRecv N2 (.ref 633) 11 && gRoom [] && true) (some (.inr (179, [some (.ref 633), none], []))) none = _; rw [recv_s hN2.1 qa_633 qo_61]; rfl)) H
  have K3 : Ev none e1 179 0 [some (.ref 633), none] [] N2 vK3 MK3 0 0 := K3
  have HF := H
  subst eN2
  exact ⟨b1, ⟨e1, vK3, MK3, rfl, K3, HF⟩⟩
theorem rlq6_150 {e : Nat} {M M' : Mem} {v : Option Value} {i y : Int32} {c3 : Option Value} (hS : SQ M) (H : Ev none e 170 150 [some (.ref 633), some (.int i), some (.int 6), c3] [.int y] M v M' 0 0) : (y = 0 ∧ v = some (.int 0) ∧ M' = M) ∨ (¬ (y = 0) ∧ (0 ≤ i.toInt ∧ i.toInt < 128) ∧ v = some (.int 1) ∧ M' = (wI M 644 i.toNatClampNeg (zI M 633 19))) := by
  have H : Ev none e 170 (if y = 0 then 153 else 155) [some (.ref 633), some (.int i), some (.int 6), c3] [] M v M' 0 0 := Ev.back 1 (fun n => rfl) H
  by_cases h1 : y = 0
  · rw [if_pos h1] at H
    have H : Ev none e 170 154 [some (.ref 633), some (.int i), some (.int 6), c3] [.int 0] M v M' 0 0 := Ev.back 1 (fun n => rfl) H
    obtain ⟨z1, z2⟩ := Ev.retz rfl rfl H
    exact Or.inl ⟨h1, z1, z2⟩
  · rw [if_neg h1] at H
    have H : Ev none e 170 156 [some (.ref 633), some (.int i), some (.int 6), c3] [.ref 633] M v M' 0 0 := Ev.back 1 (fun n => rfl) H
    have H : Ev none e 170 159 [some (.ref 633), some (.int i), some (.int 6), c3] [.ref 644] M v M' 0 0 := Ev.back 1 (gs_3 rfl rfl (gf_u hS.1 qa_633 qr_61_14 qu_72 rfl)) H
    have H : Ev none e 170 161 [some (.ref 633), some (.int i), some (.int 6), c3] [.ref 633, .int i, .ref 644] M v M' 0 0 := Ev.back 2 (fun n => rfl) H
    have H : Ev none e 170 164 [some (.ref 633), some (.int i), some (.int 6), c3] [.int (zI M 633 19), .int i, .ref 644] M v M' 0 0 := Ev.back 1 (gs_3 rfl rfl (gf_i hS.1 qa_633 qi_61_19 rfl)) H
    obtain ⟨b2, H⟩ := Ev.ias rfl rfl hS.1 qa_644 qw_72 H
    obtain ⟨N3, eN3⟩ : ∃ N, N = (wI M 644 i.toNatClampNeg (zI M 633 19)) := ⟨_, rfl⟩
    have hN3 : SQ N3 := by rw [eN3]; exact hS.ki
    have H : Ev none e 170 165 [some (.ref 633), some (.int i), some (.int 6), c3] [] N3 v M' 0 0 := by rw [eN3]; exact H
    have H : Ev none e 170 166 [some (.ref 633), some (.int i), some (.int 6), c3] [.int 1] N3 v M' 0 0 := Ev.back 1 (fun n => rfl) H
    obtain ⟨z1, z2⟩ := Ev.retz rfl rfl H
    subst eN3
    exact Or.inr (⟨h1, b2, z1, z2⟩)
theorem rlq7_0 {e : Nat} {M M' : Mem} {v : Option Value} {i : Int32} (hS : SQ M) (H : Ev none e 170 0 [some (.ref 633), some (.int i), some (.int 7), none] [] M v M' 0 0) : (∃ e1 v1 M1, e = e1 + 1 ∧ Ev none e1 167 0 [some (.ref 633), some (.int 0), some (.int 9)] [] M v1 M1 0 0 ∧ Ev none e 170 75 [some (.ref 633), some (.int i), some (.int 7), none] (v1.toList ++ []) M1 v M' 0 0) := by
  have H : Ev none e 170 (if 7 = 5 then 5 else 31) [some (.ref 633), some (.int i), some (.int 7), none] [] M v M' 0 0 := Ev.back 3 (fun n => rfl) H
  rw [if_neg (by decide)] at H
  have H : Ev none e 170 (if 7 = 6 then 90 else 37) [some (.ref 633), some (.int i), some (.int 7), none] [] M v M' 0 0 := Ev.back 3 (fun n => rfl) H
  rw [if_neg (by decide)] at H
  have H : Ev none e 170 (if 7 = 2 then 43 else 47) [some (.ref 633), some (.int i), some (.int 7), none] [.ref 633] M v M' 0 0 := Ev.back 4 (fun n => rfl) H
  rw [if_neg (by decide)] at H
  have H : Ev none e 170 (if 7 = 5 then 53 else 58) [some (.ref 633), some (.int i), some (.int 7), none] [.int 0, .ref 633] M v M' 0 0 := Ev.back 4 (fun n => rfl) H
  rw [if_neg (by decide)] at H
  have H : Ev none e 170 (if 7 = 7 then 64 else 69) [some (.ref 633), some (.int i), some (.int 7), none] [.int 0, .ref 633] M v M' 0 0 := Ev.back 3 (fun n => rfl) H
  rw [if_pos (by decide)] at H
  have H : Ev none e 170 72 [some (.ref 633), some (.int i), some (.int 7), none] [.int 9, .int 0, .ref 633] M v M' 0 0 := Ev.back 2 (fun n => rfl) H
  obtain ⟨e1, rfl⟩ := Ev.dpos rfl rfl H
  obtain ⟨vK1, MK1, K1, H⟩ := Ev.callb (fun n => gs_7 rfl rfl (show gCal (.invokevirtual 240) 11 (.int 9 :: .int 0 :: .ref 633 :: []) M = some (.inr (167, [some (.ref 633), some (.int 0), some (.int 9)], [])) from by show @cond (Option ((List Value × Mem) ⊕ (Nat × Lo × List Value))) (true && gRecv M (.ref 633) 11 && gRoom [] && true) (some (.inr (167, [some (.ref 633), some (.int 0), some (.int 9)], []))) none = _; rw [recv_s hS.1 qa_633 qo_61]; rfl)) H
  have K1 : Ev none e1 167 0 [some (.ref 633), some (.int 0), some (.int 9)] [] M vK1 MK1 0 0 := K1
  have HF := H
  exact ⟨e1, vK1, MK1, rfl, K1, HF⟩
theorem rlq7_75 {e : Nat} {M M' : Mem} {v : Option Value} {i y : Int32} {c3 : Option Value} (hS : SQ M) (H : Ev none e 170 75 [some (.ref 633), some (.int i), some (.int 7), c3] [.int y] M v M' 0 0) : (y = 0 ∧ v = some (.int 0) ∧ M' = M) ∨ (¬ (y = 0) ∧ (0 ≤ i.toInt ∧ i.toInt < 128) ∧ (0 ≤ i.toInt ∧ i.toInt < 128) ∧ (0 ≤ i.toInt ∧ i.toInt < 128) ∧ v = some (.int 1) ∧ M' = (wI (wI (wI M 642 i.toNatClampNeg (zI M 633 32)) 643 i.toNatClampNeg (zI M 633 19)) 644 i.toNatClampNeg (zI M 633 19))) := by
  have H : Ev none e 170 (if y = 0 then 78 else 80) [some (.ref 633), some (.int i), some (.int 7), c3] [] M v M' 0 0 := Ev.back 1 (fun n => rfl) H
  by_cases h1 : y = 0
  · rw [if_pos h1] at H
    have H : Ev none e 170 79 [some (.ref 633), some (.int i), some (.int 7), c3] [.int 0] M v M' 0 0 := Ev.back 1 (fun n => rfl) H
    obtain ⟨z1, z2⟩ := Ev.retz rfl rfl H
    exact Or.inl ⟨h1, z1, z2⟩
  · rw [if_neg h1] at H
    have H : Ev none e 170 81 [some (.ref 633), some (.int i), some (.int 7), c3] [.ref 633] M v M' 0 0 := Ev.back 1 (fun n => rfl) H
    have H : Ev none e 170 84 [some (.ref 633), some (.int i), some (.int 7), c3] [.ref 642] M v M' 0 0 := Ev.back 1 (gs_3 rfl rfl (gf_u hS.1 qa_633 qr_61_12 qu_70 rfl)) H
    have H : Ev none e 170 86 [some (.ref 633), some (.int i), some (.int 7), c3] [.ref 633, .int i, .ref 642] M v M' 0 0 := Ev.back 2 (fun n => rfl) H
    have H : Ev none e 170 89 [some (.ref 633), some (.int i), some (.int 7), c3] [.int (zI M 633 32), .int i, .ref 642] M v M' 0 0 := Ev.back 1 (gs_3 rfl rfl (gf_i hS.1 qa_633 qi_61_32 rfl)) H
    obtain ⟨b2, H⟩ := Ev.ias rfl rfl hS.1 qa_642 qw_70 H
    obtain ⟨N3, eN3⟩ : ∃ N, N = (wI M 642 i.toNatClampNeg (zI M 633 32)) := ⟨_, rfl⟩
    have hN3 : SQ N3 := by rw [eN3]; exact hS.ki
    have H : Ev none e 170 90 [some (.ref 633), some (.int i), some (.int 7), c3] [] N3 v M' 0 0 := by rw [eN3]; exact H
    have H : Ev none e 170 91 [some (.ref 633), some (.int i), some (.int 7), c3] [.ref 633] N3 v M' 0 0 := Ev.back 1 (fun n => rfl) H
    have H : Ev none e 170 94 [some (.ref 633), some (.int i), some (.int 7), c3] [.ref 643] N3 v M' 0 0 := Ev.back 1 (gs_3 rfl rfl (gf_u hN3.1 qa_633 qr_61_13 qu_71 rfl)) H
    have H : Ev none e 170 96 [some (.ref 633), some (.int i), some (.int 7), c3] [.ref 633, .int i, .ref 643] N3 v M' 0 0 := Ev.back 2 (fun n => rfl) H
    have H : Ev none e 170 99 [some (.ref 633), some (.int i), some (.int 7), c3] [.int (zI N3 633 19), .int i, .ref 643] N3 v M' 0 0 := Ev.back 1 (gs_3 rfl rfl (gf_i hN3.1 qa_633 qi_61_19 rfl)) H
    rw [show zI N3 633 19 = zI M 633 19 from by rw [eN3]; exact fI_wI] at H
    obtain ⟨b4, H⟩ := Ev.ias rfl rfl hN3.1 qa_643 qw_71 H
    obtain ⟨N5, eN5⟩ : ∃ N, N = (wI N3 643 i.toNatClampNeg (zI M 633 19)) := ⟨_, rfl⟩
    have hN5 : SQ N5 := by rw [eN5]; exact hN3.ki
    have H : Ev none e 170 100 [some (.ref 633), some (.int i), some (.int 7), c3] [] N5 v M' 0 0 := by rw [eN5]; exact H
    have H : Ev none e 170 (if 7 = 6 then 106 else 110) [some (.ref 633), some (.int i), some (.int 7), c3] [] N5 v M' 0 0 := Ev.back 3 (fun n => rfl) H
    rw [if_neg (by decide)] at H
    have H : Ev none e 170 (if 7 = 0 then 126 else 116) [some (.ref 633), some (.int i), some (.int 7), some (.int 0)] [] N5 v M' 0 0 := Ev.back 4 (fun n => rfl) H
    rw [if_neg (by decide)] at H
    have H : Ev none e 170 (if 7 = 1 then 126 else 121) [some (.ref 633), some (.int i), some (.int 7), some (.int 0)] [] N5 v M' 0 0 := Ev.back 3 (fun n => rfl) H
    rw [if_neg (by decide)] at H
    have H : Ev none e 170 (if 7 = 5 then 126 else 142) [some (.ref 633), some (.int i), some (.int 7), some (.int 0)] [] N5 v M' 0 0 := Ev.back 3 (fun n => rfl) H
    rw [if_neg (by decide)] at H
    have H : Ev none e 170 (if 0 = 0 then 155 else 146) [some (.ref 633), some (.int i), some (.int 7), some (.int 0)] [] N5 v M' 0 0 := Ev.back 2 (fun n => rfl) H
    rw [if_pos (by decide)] at H
    have H : Ev none e 170 156 [some (.ref 633), some (.int i), some (.int 7), some (.int 0)] [.ref 633] N5 v M' 0 0 := Ev.back 1 (fun n => rfl) H
    have H : Ev none e 170 159 [some (.ref 633), some (.int i), some (.int 7), some (.int 0)] [.ref 644] N5 v M' 0 0 := Ev.back 1 (gs_3 rfl rfl (gf_u hN5.1 qa_633 qr_61_14 qu_72 rfl)) H
    have H : Ev none e 170 161 [some (.ref 633), some (.int i), some (.int 7), some (.int 0)] [.ref 633, .int i, .ref 644] N5 v M' 0 0 := Ev.back 2 (fun n => rfl) H
    have H : Ev none e 170 164 [some (.ref 633), some (.int i), some (.int 7), some (.int 0)] [.int (zI N5 633 19), .int i, .ref 644] N5 v M' 0 0 := Ev.back 1 (gs_3 rfl rfl (gf_i hN5.1 qa_633 qi_61_19 rfl)) H
    rw [(show zI N5 633 19 = zI N3 633 19 from by rw [eN5]; exact fI_wI).trans (show zI N3 633 19 = zI M 633 19 from by rw [eN3]; exact fI_wI)] at H
    obtain ⟨b6, H⟩ := Ev.ias rfl rfl hN5.1 qa_644 qw_72 H
    obtain ⟨N7, eN7⟩ : ∃ N, N = (wI N5 644 i.toNatClampNeg (zI M 633 19)) := ⟨_, rfl⟩
    have hN7 : SQ N7 := by rw [eN7]; exact hN5.ki
    have H : Ev none e 170 165 [some (.ref 633), some (.int i), some (.int 7), some (.int 0)] [] N7 v M' 0 0 := by rw [eN7]; exact H
    have H : Ev none e 170 166 [some (.ref 633), some (.int i), some (.int 7), some (.int 0)] [.int 1] N7 v M' 0 0 := Ev.back 1 (fun n => rfl) H
    obtain ⟨z1, z2⟩ := Ev.retz rfl rfl H
    subst eN3 eN5 eN7
    exact Or.inr (⟨h1, b2, b4, b6, z1, z2⟩)
theorem rlq5_19 {e : Nat} {M M' : Mem} {v : Option Value} {i y : Int32} {c2 c3 : Option Value} (hS : SQ M) (H : Ev none e 170 19 [some (.ref 633), some (.int i), c2, c3] [.int y] M v M' 0 0) : v = some (.int y) ∧ M' = M := by
  obtain ⟨z1, z2⟩ := Ev.retz rfl rfl H
  exact ⟨z1, z2⟩
theorem rdq_0 {e : Nat} {M M' : Mem} {v : Option Value} {l : Int32} {c2 c3 c4 : Option Value} (hS : SQ M) (H : Ev none e 169 0 [some (.ref 633), some (.int l), c2, c3, c4] [] M v M' 0 0) : ((zI M 633 22) = 0 ∧ v = some (.int 1) ∧ M' = M) ∨ (¬ ((zI M 633 22) = 0) ∧ 0 ≤ (G_168 M l) ∧ (G_140 M (G_168 M l) 2 4) = 0 ∧ (G_168 M l) = 7 ∧ (∃ e1 v1 M1, e = e1 + 1 ∧ Ev none e1 172 0 [some (.ref 633), some (.int 7), some (.int (G_168 M l)), none] [] M v1 M1 0 0 ∧ Ev none e 169 45 [some (.ref 633), some (.int l), some (.int (G_168 M l)), c3, c4] (v1.toList ++ []) M1 v M' 0 0)) ∨ (¬ ((zI M 633 22) = 0) ∧ 0 ≤ (G_168 M l) ∧ (G_140 M (G_168 M l) 2 4) = 0 ∧ ¬ ((G_168 M l) = 7) ∧ (rI M 639 7) = 16 ∧ (∃ e1 v1 M1, e = e1 + 1 ∧ Ev none e1 163 0 [some (.ref 633), some (.int 3)] [] M v1 M1 0 0 ∧ Ev none e 169 75 [some (.ref 633), some (.int l), some (.int (G_168 M l)), some (.int 0), c4] (v1.toList ++ []) M1 v M' 0 0)) ∨ (¬ ((zI M 633 22) = 0) ∧ 0 ≤ (G_168 M l) ∧ (G_140 M (G_168 M l) 2 4) = 0 ∧ ¬ ((G_168 M l) = 7) ∧ ¬ ((rI M 639 7) = 16) ∧ (∃ e1 v1 M1, e = e1 + 1 ∧ Ev none e1 162 0 [some (.ref 633), none, none, none] [] M v1 M1 0 0 ∧ Ev none e 169 92 [some (.ref 633), some (.int l), some (.int (G_168 M l)), some (.int 0), some (.int (112 + (rI M 639 7)))] (v1.toList ++ []) M1 v M' 0 0)) ∨ (¬ ((zI M 633 22) = 0) ∧ 0 ≤ (G_168 M l) ∧ ¬ ((G_140 M (G_168 M l) 2 4) = 0) ∧ (∃ e1 v1 M1, e = e1 + 1 ∧ Ev none e1 172 0 [some (.ref 633), some (.int 7), some (.int (G_168 M l)), none] [] M v1 M1 0 0 ∧ Ev none e 169 45 [some (.ref 633), some (.int l), some (.int (G_168 M l)), c3, c4] (v1.toList ++ []) M1 v M' 0 0)) ∨ (¬ ((zI M 633 22) = 0) ∧ ¬ (0 ≤ (G_168 M l)) ∧ (∃ e1 v1 M1, e = e1 + 1 ∧ Ev none e1 163 0 [some (.ref 633), some (.int 1)] [] M v1 M1 0 0 ∧ Ev none e 169 22 [some (.ref 633), some (.int l), some (.int (G_168 M l)), c3, c4] (v1.toList ++ []) M1 v M' 0 0)) := by
  have H : Ev none e 169 1 [some (.ref 633), some (.int l), c2, c3, c4] [.ref 633] M v M' 0 0 := Ev.back 1 (fun n => rfl) H
  have H : Ev none e 169 4 [some (.ref 633), some (.int l), c2, c3, c4] [.int (zI M 633 22)] M v M' 0 0 := Ev.back 1 (gs_3 rfl rfl (gf_i hS.1 qa_633 qi_61_22 rfl)) H
  have H : Ev none e 169 (if (zI M 633 22) = 0 then 151 else 7) [some (.ref 633), some (.int l), c2, c3, c4] [] M v M' 0 0 := Ev.back 1 (fun n => rfl) H
  by_cases h1 : (zI M 633 22) = 0
  · rw [if_pos h1] at H
    have H : Ev none e 169 152 [some (.ref 633), some (.int l), c2, c3, c4] [.int 1] M v M' 0 0 := Ev.back 1 (fun n => rfl) H
    obtain ⟨z1, z2⟩ := Ev.retz rfl rfl H
    exact Or.inl ⟨h1, z1, z2⟩
  · rw [if_neg h1] at H
    have H : Ev none e 169 9 [some (.ref 633), some (.int l), c2, c3, c4] [.int l, .ref 633] M v M' 0 0 := Ev.back 2 (fun n => rfl) H
    obtain ⟨e1, rfl⟩ := Ev.dpos rfl rfl H
    obtain ⟨vK2, MK2, K2, H⟩ := Ev.callb (fun n => gs_7 rfl rfl (show gCal (.invokevirtual 223) 11 (.int l :: .ref 633 :: []) M = some (.inr (168, [some (.ref 633), some (.int l)], [])) from by show @cond (Option ((List Value × Mem) ⊕ (Nat × Lo × List Value))) (true && gRecv M (.ref 633) 11 && gRoom [] && true) (some (.inr (168, [some (.ref 633), some (.int l)], []))) none = _; rw [recv_s hS.1 qa_633 qo_61]; rfl)) H
    obtain ⟨pK2, qK2⟩ := g_168 hS K2
    rw [pK2, qK2] at H
    have H : Ev none (e1 + 1) 169 12 [some (.ref 633), some (.int l), c2, c3, c4] [.int (G_168 M l)] M v M' 0 0 := H
    have H : Ev none (e1 + 1) 169 (if 0 ≤ (G_168 M l) then 23 else 17) [some (.ref 633), some (.int l), some (.int (G_168 M l)), c3, c4] [] M v M' 0 0 := Ev.back 3 (fun n => rfl) H
    by_cases h3 : 0 ≤ (G_168 M l)
    · rw [if_pos h3] at H
      have H : Ev none (e1 + 1) 169 26 [some (.ref 633), some (.int l), some (.int (G_168 M l)), c3, c4] [.int 4, .int 2, .int (G_168 M l)] M v M' 0 0 := Ev.back 3 (fun n => rfl) H
      obtain ⟨vK4, MK4, K4, H⟩ := Ev.callb (fun n => rfl) H
      obtain ⟨pK4, qK4⟩ := g_140 hS K4
      rw [pK4, qK4] at H
      have H : Ev none (e1 + 1) 169 29 [some (.ref 633), some (.int l), some (.int (G_168 M l)), c3, c4] [.int (G_140 M (G_168 M l) 2 4)] M v M' 0 0 := H
      have H : Ev none (e1 + 1) 169 (if (G_140 M (G_168 M l) 2 4) = 0 then 32 else 38) [some (.ref 633), some (.int l), some (.int (G_168 M l)), c3, c4] [] M v M' 0 0 := Ev.back 1 (fun n => rfl) H
      by_cases h5 : (G_140 M (G_168 M l) 2 4) = 0
      · rw [if_pos h5] at H
        have H : Ev none (e1 + 1) 169 (if (G_168 M l) = 7 then 38 else 52) [some (.ref 633), some (.int l), some (.int (G_168 M l)), c3, c4] [] M v M' 0 0 := Ev.back 3 (fun n => rfl) H
        by_cases h6 : (G_168 M l) = 7
        · rw [if_pos h6] at H
          have H : Ev none (e1 + 1) 169 42 [some (.ref 633), some (.int l), some (.int (G_168 M l)), c3, c4] [.int (G_168 M l), .int 7, .ref 633] M v M' 0 0 := Ev.back 3 (fun n => rfl) H
          obtain ⟨vK7, MK7, K7, H⟩ := Ev.callb (fun n => gs_7 rfl rfl (show gCal (.invokevirtual 227) 11 (.int (G_168 M l) :: .int 7 :: .ref 633 :: []) M = some (.inr (172, [some (.ref 633), some (.int 7), some (.int (G_168 M l)), none], [])) from by show @cond (Option ((List Value × Mem) ⊕ (Nat × Lo × List Value))) (true && gRecv M (.ref 633) 11 && gRoom [] && true) (some (.inr (172, [some (.ref 633), some (.int 7), some (.int (G_168 M l)), none], []))) none = _; rw [recv_s hS.1 qa_633 qo_61]; rfl)) H
          have K7 : Ev none e1 172 0 [some (.ref 633), some (.int 7), some (.int (G_168 M l)), none] [] M vK7 MK7 0 0 := K7
          have HF := H
          exact Or.inr (Or.inl ⟨h1, h3, h5, h6, ⟨e1, vK7, MK7, rfl, K7, HF⟩⟩)
        · rw [if_neg h6] at H
          have H : Ev none (e1 + 1) 169 (if 0 = 0 then 58 else 70) [some (.ref 633), some (.int l), some (.int (G_168 M l)), some (.int 0), c4] [] M v M' 0 0 := Ev.back 4 (fun n => rfl) H
          rw [if_pos (by decide)] at H
          have H : Ev none (e1 + 1) 169 59 [some (.ref 633), some (.int l), some (.int (G_168 M l)), some (.int 0), c4] [.ref 633] M v M' 0 0 := Ev.back 1 (fun n => rfl) H
          have H : Ev none (e1 + 1) 169 62 [some (.ref 633), some (.int l), some (.int (G_168 M l)), some (.int 0), c4] [.ref 639] M v M' 0 0 := Ev.back 1 (gs_3 rfl rfl (gf_u hS.1 qa_633 qr_61_9 qu_67 rfl)) H
          have H : Ev none (e1 + 1) 169 64 [some (.ref 633), some (.int l), some (.int (G_168 M l)), some (.int 0), c4] [.int 7, .ref 639] M v M' 0 0 := Ev.back 1 (fun n => rfl) H
          obtain ⟨b8, H⟩ := Ev.ial rfl rfl hS.1 qa_639 qw_67 H
          have H : Ev none (e1 + 1) 169 65 [some (.ref 633), some (.int l), some (.int (G_168 M l)), some (.int 0), c4] [.int (rI M 639 7)] M v M' 0 0 := H
          have H : Ev none (e1 + 1) 169 (if (rI M 639 7) = 16 then 70 else 76) [some (.ref 633), some (.int l), some (.int (G_168 M l)), some (.int 0), c4] [] M v M' 0 0 := Ev.back 2 (fun n => rfl) H
          by_cases h9 : (rI M 639 7) = 16
          · rw [if_pos h9] at H
            have H : Ev none (e1 + 1) 169 72 [some (.ref 633), some (.int l), some (.int (G_168 M l)), some (.int 0), c4] [.int 3, .ref 633] M v M' 0 0 := Ev.back 2 (fun n => rfl) H
            obtain ⟨vK10, MK10, K10, H⟩ := Ev.callb (fun n => gs_7 rfl rfl (show gCal (.invokevirtual 198) 11 (.int 3 :: .ref 633 :: []) M = some (.inr (163, [some (.ref 633), some (.int 3)], [])) from by show @cond (Option ((List Value × Mem) ⊕ (Nat × Lo × List Value))) (true && gRecv M (.ref 633) 11 && gRoom [] && true) (some (.inr (163, [some (.ref 633), some (.int 3)], []))) none = _; rw [recv_s hS.1 qa_633 qo_61]; rfl)) H
            have K10 : Ev none e1 163 0 [some (.ref 633), some (.int 3)] [] M vK10 MK10 0 0 := K10
            have HF := H
            exact Or.inr (Or.inr (Or.inl ⟨h1, h3, h5, h6, h9, ⟨e1, vK10, MK10, rfl, K10, HF⟩⟩))
          · rw [if_neg h9] at H
            have H : Ev none (e1 + 1) 169 79 [some (.ref 633), some (.int l), some (.int (G_168 M l)), some (.int 0), c4] [.ref 633, .int 112] M v M' 0 0 := Ev.back 2 (fun n => rfl) H
            have H : Ev none (e1 + 1) 169 82 [some (.ref 633), some (.int l), some (.int (G_168 M l)), some (.int 0), c4] [.ref 639, .int 112] M v M' 0 0 := Ev.back 1 (gs_3 rfl rfl (gf_u hS.1 qa_633 qr_61_9 qu_67 rfl)) H
            have H : Ev none (e1 + 1) 169 84 [some (.ref 633), some (.int l), some (.int (G_168 M l)), some (.int 0), c4] [.int 7, .ref 639, .int 112] M v M' 0 0 := Ev.back 1 (fun n => rfl) H
            obtain ⟨b11, H⟩ := Ev.ial rfl rfl hS.1 qa_639 qw_67 H
            have H : Ev none (e1 + 1) 169 85 [some (.ref 633), some (.int l), some (.int (G_168 M l)), some (.int 0), c4] [.int (rI M 639 7), .int 112] M v M' 0 0 := H
            have H : Ev none (e1 + 1) 169 89 [some (.ref 633), some (.int l), some (.int (G_168 M l)), some (.int 0), some (.int (112 + (rI M 639 7)))] [.ref 633] M v M' 0 0 := Ev.back 3 (fun n => rfl) H
            obtain ⟨vK12, MK12, K12, H⟩ := Ev.callb (fun n => gs_7 rfl rfl (show gCal (.invokevirtual 201) 11 (.ref 633 :: []) M = some (.inr (162, [some (.ref 633), none, none, none], [])) from by show @cond (Option ((List Value × Mem) ⊕ (Nat × Lo × List Value))) (true && gRecv M (.ref 633) 11 && gRoom [] && true) (some (.inr (162, [some (.ref 633), none, none, none], []))) none = _; rw [recv_s hS.1 qa_633 qo_61]; rfl)) H
            have K12 : Ev none e1 162 0 [some (.ref 633), none, none, none] [] M vK12 MK12 0 0 := K12
            have HF := H
            exact Or.inr (Or.inr (Or.inr (Or.inl ⟨h1, h3, h5, h6, h9, ⟨e1, vK12, MK12, rfl, K12, HF⟩⟩)))
      · rw [if_neg h5] at H
        have H : Ev none (e1 + 1) 169 42 [some (.ref 633), some (.int l), some (.int (G_168 M l)), c3, c4] [.int (G_168 M l), .int 7, .ref 633] M v M' 0 0 := Ev.back 3 (fun n => rfl) H
        obtain ⟨vK13, MK13, K13, H⟩ := Ev.callb (fun n => gs_7 rfl rfl (show gCal (.invokevirtual 227) 11 (.int (G_168 M l) :: .int 7 :: .ref 633 :: []) M = some (.inr (172, [some (.ref 633), some (.int 7), some (.int (G_168 M l)), none], [])) from by show @cond (Option ((List Value × Mem) ⊕ (Nat × Lo × List Value))) (true && gRecv M (.ref 633) 11 && gRoom [] && true) (some (.inr (172, [some (.ref 633), some (.int 7), some (.int (G_168 M l)), none], []))) none = _; rw [recv_s hS.1 qa_633 qo_61]; rfl)) H
        have K13 : Ev none e1 172 0 [some (.ref 633), some (.int 7), some (.int (G_168 M l)), none] [] M vK13 MK13 0 0 := K13
        have HF := H
        exact Or.inr (Or.inr (Or.inr (Or.inr (Or.inl ⟨h1, h3, h5, ⟨e1, vK13, MK13, rfl, K13, HF⟩⟩))))
    · rw [if_neg h3] at H
      have H : Ev none (e1 + 1) 169 19 [some (.ref 633), some (.int l), some (.int (G_168 M l)), c3, c4] [.int 1, .ref 633] M v M' 0 0 := Ev.back 2 (fun n => rfl) H
      obtain ⟨vK14, MK14, K14, H⟩ := Ev.callb (fun n => gs_7 rfl rfl (show gCal (.invokevirtual 198) 11 (.int 1 :: .ref 633 :: []) M = some (.inr (163, [some (.ref 633), some (.int 1)], [])) from by show @cond (Option ((List Value × Mem) ⊕ (Nat × Lo × List Value))) (true && gRecv M (.ref 633) 11 && gRoom [] && true) (some (.inr (163, [some (.ref 633), some (.int 1)], []))) none = _; rw [recv_s hS.1 qa_633 qo_61]; rfl)) H
      have K14 : Ev none e1 163 0 [some (.ref 633), some (.int 1)] [] M vK14 MK14 0 0 := K14
      have HF := H
      exact Or.inr (Or.inr (Or.inr (Or.inr (Or.inr (⟨h1, h3, ⟨e1, vK14, MK14, rfl, K14, HF⟩⟩)))))
theorem rdq_22 {e : Nat} {M M' : Mem} {v : Option Value} {l y : Int32} {c2 c3 c4 : Option Value} (hS : SQ M) (H : Ev none e 169 22 [some (.ref 633), some (.int l), c2, c3, c4] [.int y] M v M' 0 0) : v = some (.int y) ∧ M' = M := by
  obtain ⟨z1, z2⟩ := Ev.retz rfl rfl H
  exact ⟨z1, z2⟩
theorem rdq_45 {e : Nat} {M M' : Mem} {v : Option Value} {l k y : Int32} {c3 c4 : Option Value} (hS : SQ M) (H : Ev none e 169 45 [some (.ref 633), some (.int l), some (.int k), c3, c4] [.int y] M v M' 0 0) : (y < 0 ∧ (rI M 639 7) = 16 ∧ (∃ e1 v1 M1, e = e1 + 1 ∧ Ev none e1 163 0 [some (.ref 633), some (.int 3)] [] M v1 M1 0 0 ∧ Ev none e 169 75 [some (.ref 633), some (.int l), some (.int k), some (.int 0), c4] (v1.toList ++ []) M1 v M' 0 0)) ∨ (y < 0 ∧ ¬ ((rI M 639 7) = 16) ∧ (∃ e1 v1 M1, e = e1 + 1 ∧ Ev none e1 162 0 [some (.ref 633), none, none, none] [] M v1 M1 0 0 ∧ Ev none e 169 92 [some (.ref 633), some (.int l), some (.int k), some (.int 0), some (.int (112 + (rI M 639 7)))] (v1.toList ++ []) M1 v M' 0 0)) ∨ (¬ (y < 0) ∧ (∃ e1 v1 M1, e = e1 + 1 ∧ Ev none e1 163 0 [some (.ref 633), some (.int 3)] [] M v1 M1 0 0 ∧ Ev none e 169 75 [some (.ref 633), some (.int l), some (.int k), some (.int 1), c4] (v1.toList ++ []) M1 v M' 0 0)) := by
  have H : Ev none e 169 (if y < 0 then 52 else 48) [some (.ref 633), some (.int l), some (.int k), c3, c4] [] M v M' 0 0 := Ev.back 1 (fun n => rfl) H
  by_cases h1 : y < 0
  · rw [if_pos h1] at H
    have H : Ev none e 169 (if 0 = 0 then 58 else 70) [some (.ref 633), some (.int l), some (.int k), some (.int 0), c4] [] M v M' 0 0 := Ev.back 4 (fun n => rfl) H
    rw [if_pos (by decide)] at H
    have H : Ev none e 169 59 [some (.ref 633), some (.int l), some (.int k), some (.int 0), c4] [.ref 633] M v M' 0 0 := Ev.back 1 (fun n => rfl) H
    have H : Ev none e 169 62 [some (.ref 633), some (.int l), some (.int k), some (.int 0), c4] [.ref 639] M v M' 0 0 := Ev.back 1 (gs_3 rfl rfl (gf_u hS.1 qa_633 qr_61_9 qu_67 rfl)) H
    have H : Ev none e 169 64 [some (.ref 633), some (.int l), some (.int k), some (.int 0), c4] [.int 7, .ref 639] M v M' 0 0 := Ev.back 1 (fun n => rfl) H
    obtain ⟨b2, H⟩ := Ev.ial rfl rfl hS.1 qa_639 qw_67 H
    have H : Ev none e 169 65 [some (.ref 633), some (.int l), some (.int k), some (.int 0), c4] [.int (rI M 639 7)] M v M' 0 0 := H
    have H : Ev none e 169 (if (rI M 639 7) = 16 then 70 else 76) [some (.ref 633), some (.int l), some (.int k), some (.int 0), c4] [] M v M' 0 0 := Ev.back 2 (fun n => rfl) H
    by_cases h3 : (rI M 639 7) = 16
    · rw [if_pos h3] at H
      have H : Ev none e 169 72 [some (.ref 633), some (.int l), some (.int k), some (.int 0), c4] [.int 3, .ref 633] M v M' 0 0 := Ev.back 2 (fun n => rfl) H
      obtain ⟨e1, rfl⟩ := Ev.dpos rfl rfl H
      obtain ⟨vK4, MK4, K4, H⟩ := Ev.callb (fun n => gs_7 rfl rfl (show gCal (.invokevirtual 198) 11 (.int 3 :: .ref 633 :: []) M = some (.inr (163, [some (.ref 633), some (.int 3)], [])) from by show @cond (Option ((List Value × Mem) ⊕ (Nat × Lo × List Value))) (true && gRecv M (.ref 633) 11 && gRoom [] && true) (some (.inr (163, [some (.ref 633), some (.int 3)], []))) none = _; rw [recv_s hS.1 qa_633 qo_61]; rfl)) H
      have K4 : Ev none e1 163 0 [some (.ref 633), some (.int 3)] [] M vK4 MK4 0 0 := K4
      have HF := H
      exact Or.inl ⟨h1, h3, ⟨e1, vK4, MK4, rfl, K4, HF⟩⟩
    · rw [if_neg h3] at H
      have H : Ev none e 169 79 [some (.ref 633), some (.int l), some (.int k), some (.int 0), c4] [.ref 633, .int 112] M v M' 0 0 := Ev.back 2 (fun n => rfl) H
      have H : Ev none e 169 82 [some (.ref 633), some (.int l), some (.int k), some (.int 0), c4] [.ref 639, .int 112] M v M' 0 0 := Ev.back 1 (gs_3 rfl rfl (gf_u hS.1 qa_633 qr_61_9 qu_67 rfl)) H
      have H : Ev none e 169 84 [some (.ref 633), some (.int l), some (.int k), some (.int 0), c4] [.int 7, .ref 639, .int 112] M v M' 0 0 := Ev.back 1 (fun n => rfl) H
      obtain ⟨b5, H⟩ := Ev.ial rfl rfl hS.1 qa_639 qw_67 H
      have H : Ev none e 169 85 [some (.ref 633), some (.int l), some (.int k), some (.int 0), c4] [.int (rI M 639 7), .int 112] M v M' 0 0 := H
      have H : Ev none e 169 89 [some (.ref 633), some (.int l), some (.int k), some (.int 0), some (.int (112 + (rI M 639 7)))] [.ref 633] M v M' 0 0 := Ev.back 3 (fun n => rfl) H
      obtain ⟨e1, rfl⟩ := Ev.dpos rfl rfl H
      obtain ⟨vK6, MK6, K6, H⟩ := Ev.callb (fun n => gs_7 rfl rfl (show gCal (.invokevirtual 201) 11 (.ref 633 :: []) M = some (.inr (162, [some (.ref 633), none, none, none], [])) from by show @cond (Option ((List Value × Mem) ⊕ (Nat × Lo × List Value))) (true && gRecv M (.ref 633) 11 && gRoom [] && true) (some (.inr (162, [some (.ref 633), none, none, none], []))) none = _; rw [recv_s hS.1 qa_633 qo_61]; rfl)) H
      have K6 : Ev none e1 162 0 [some (.ref 633), none, none, none] [] M vK6 MK6 0 0 := K6
      have HF := H
      exact Or.inr (Or.inl ⟨h1, h3, ⟨e1, vK6, MK6, rfl, K6, HF⟩⟩)
  · rw [if_neg h1] at H
    have H : Ev none e 169 (if 1 = 0 then 58 else 70) [some (.ref 633), some (.int l), some (.int k), some (.int 1), c4] [] M v M' 0 0 := Ev.back 5 (fun n => rfl) H
    rw [if_neg (by decide)] at H
    have H : Ev none e 169 72 [some (.ref 633), some (.int l), some (.int k), some (.int 1), c4] [.int 3, .ref 633] M v M' 0 0 := Ev.back 2 (fun n => rfl) H
    obtain ⟨e1, rfl⟩ := Ev.dpos rfl rfl H
    obtain ⟨vK7, MK7, K7, H⟩ := Ev.callb (fun n => gs_7 rfl rfl (show gCal (.invokevirtual 198) 11 (.int 3 :: .ref 633 :: []) M = some (.inr (163, [some (.ref 633), some (.int 3)], [])) from by show @cond (Option ((List Value × Mem) ⊕ (Nat × Lo × List Value))) (true && gRecv M (.ref 633) 11 && gRoom [] && true) (some (.inr (163, [some (.ref 633), some (.int 3)], []))) none = _; rw [recv_s hS.1 qa_633 qo_61]; rfl)) H
    have K7 : Ev none e1 163 0 [some (.ref 633), some (.int 3)] [] M vK7 MK7 0 0 := K7
    have HF := H
    exact Or.inr (Or.inr (⟨h1, ⟨e1, vK7, MK7, rfl, K7, HF⟩⟩))
theorem rdq_92 {e : Nat} {M M' : Mem} {v : Option Value} {l k j : Int32} {c3 : Option Value} (hS : SQ M) (H : Ev none e 169 92 [some (.ref 633), some (.int l), some (.int k), c3, some (.int j)] [] M v M' 0 0) : (∃ e1 v1 M1, e = e1 + 1 ∧ Ev none e1 170 0 [some (.ref 633), some (.int j), some (.int k), none] [] (wI (wI (wI M 640 j.toNatClampNeg k) 641 j.toNatClampNeg 0) 642 j.toNatClampNeg 0) v1 M1 0 0 ∧ Ev none e 169 123 [some (.ref 633), some (.int l), some (.int k), c3, some (.int j)] (v1.toList ++ []) M1 v M' 0 0) := by
  have H : Ev none e 169 93 [some (.ref 633), some (.int l), some (.int k), c3, some (.int j)] [.ref 633] M v M' 0 0 := Ev.back 1 (fun n => rfl) H
  have H : Ev none e 169 96 [some (.ref 633), some (.int l), some (.int k), c3, some (.int j)] [.ref 640] M v M' 0 0 := Ev.back 1 (gs_3 rfl rfl (gf_u hS.1 qa_633 qr_61_10 qu_68 rfl)) H
  have H : Ev none e 169 99 [some (.ref 633), some (.int l), some (.int k), c3, some (.int j)] [.int k, .int j, .ref 640] M v M' 0 0 := Ev.back 2 (fun n => rfl) H
  obtain ⟨b1, H⟩ := Ev.ias rfl rfl hS.1 qa_640 qw_68 H
  obtain ⟨N2, eN2⟩ : ∃ N, N = (wI M 640 j.toNatClampNeg k) := ⟨_, rfl⟩
  have hN2 : SQ N2 := by rw [eN2]; exact hS.ki
  have H : Ev none e 169 100 [some (.ref 633), some (.int l), some (.int k), c3, some (.int j)] [] N2 v M' 0 0 := by rw [eN2]; exact H
  have H : Ev none e 169 101 [some (.ref 633), some (.int l), some (.int k), c3, some (.int j)] [.ref 633] N2 v M' 0 0 := Ev.back 1 (fun n => rfl) H
  have H : Ev none e 169 104 [some (.ref 633), some (.int l), some (.int k), c3, some (.int j)] [.ref 641] N2 v M' 0 0 := Ev.back 1 (gs_3 rfl rfl (gf_u hN2.1 qa_633 qr_61_11 qu_69 rfl)) H
  have H : Ev none e 169 107 [some (.ref 633), some (.int l), some (.int k), c3, some (.int j)] [.int 0, .int j, .ref 641] N2 v M' 0 0 := Ev.back 2 (fun n => rfl) H
  obtain ⟨b3, H⟩ := Ev.ias rfl rfl hN2.1 qa_641 qw_69 H
  obtain ⟨N4, eN4⟩ : ∃ N, N = (wI N2 641 j.toNatClampNeg 0) := ⟨_, rfl⟩
  have hN4 : SQ N4 := by rw [eN4]; exact hN2.ki
  have H : Ev none e 169 108 [some (.ref 633), some (.int l), some (.int k), c3, some (.int j)] [] N4 v M' 0 0 := by rw [eN4]; exact H
  have H : Ev none e 169 109 [some (.ref 633), some (.int l), some (.int k), c3, some (.int j)] [.ref 633] N4 v M' 0 0 := Ev.back 1 (fun n => rfl) H
  have H : Ev none e 169 112 [some (.ref 633), some (.int l), some (.int k), c3, some (.int j)] [.ref 642] N4 v M' 0 0 := Ev.back 1 (gs_3 rfl rfl (gf_u hN4.1 qa_633 qr_61_12 qu_70 rfl)) H
  have H : Ev none e 169 115 [some (.ref 633), some (.int l), some (.int k), c3, some (.int j)] [.int 0, .int j, .ref 642] N4 v M' 0 0 := Ev.back 2 (fun n => rfl) H
  obtain ⟨b5, H⟩ := Ev.ias rfl rfl hN4.1 qa_642 qw_70 H
  obtain ⟨N6, eN6⟩ : ∃ N, N = (wI N4 642 j.toNatClampNeg 0) := ⟨_, rfl⟩
  have hN6 : SQ N6 := by rw [eN6]; exact hN4.ki
  have H : Ev none e 169 116 [some (.ref 633), some (.int l), some (.int k), c3, some (.int j)] [] N6 v M' 0 0 := by rw [eN6]; exact H
  have H : Ev none e 169 120 [some (.ref 633), some (.int l), some (.int k), c3, some (.int j)] [.int k, .int j, .ref 633] N6 v M' 0 0 := Ev.back 3 (fun n => rfl) H
  obtain ⟨e1, rfl⟩ := Ev.dpos rfl rfl H
  obtain ⟨vK7, MK7, K7, H⟩ := Ev.callb (fun n => gs_7 rfl rfl (show gCal (.invokevirtual 230) 11 (.int k :: .int j :: .ref 633 :: []) N6 = some (.inr (170, [some (.ref 633), some (.int j), some (.int k), none], [])) from by show @cond (Option ((List Value × Mem) ⊕ (Nat × Lo × List Value))) (true && gRecv N6 (.ref 633) 11 && gRoom [] && true) (some (.inr (170, [some (.ref 633), some (.int j), some (.int k), none], []))) none = _; rw [recv_s hN6.1 qa_633 qo_61]; rfl)) H
  have K7 : Ev none e1 170 0 [some (.ref 633), some (.int j), some (.int k), none] [] N6 vK7 MK7 0 0 := K7
  have HF := H
  subst eN2 eN4 eN6
  exact ⟨e1, vK7, MK7, rfl, K7, HF⟩
theorem rdq_75 {e : Nat} {M M' : Mem} {v : Option Value} {l y : Int32} {c2 c3 c4 : Option Value} (hS : SQ M) (H : Ev none e 169 75 [some (.ref 633), some (.int l), c2, c3, c4] [.int y] M v M' 0 0) : v = some (.int y) ∧ M' = M := by
  obtain ⟨z1, z2⟩ := Ev.retz rfl rfl H
  exact ⟨z1, z2⟩
theorem rdq_123 {e : Nat} {M M' : Mem} {v : Option Value} {l y : Int32} {c2 c3 c4 : Option Value} (hS : SQ M) (H : Ev none e 169 123 [some (.ref 633), some (.int l), c2, c3, c4] [.int y] M v M' 0 0) : (y = 0 ∧ v = some (.int 0) ∧ M' = M) ∨ (¬ (y = 0) ∧ (∃ e1 v1 M1, e = e1 + 1 ∧ Ev none e1 166 0 [some (.ref 633), some (.int 59)] [] M v1 M1 0 0 ∧ Ev none e 169 132 [some (.ref 633), some (.int l), c2, c3, c4] (v1.toList ++ []) M1 v M' 0 0)) := by
  have H : Ev none e 169 (if y = 0 then 135 else 126) [some (.ref 633), some (.int l), c2, c3, c4] [] M v M' 0 0 := Ev.back 1 (fun n => rfl) H
  by_cases h1 : y = 0
  · rw [if_pos h1] at H
    have H : Ev none e 169 136 [some (.ref 633), some (.int l), c2, c3, c4] [.int 0] M v M' 0 0 := Ev.back 1 (fun n => rfl) H
    obtain ⟨z1, z2⟩ := Ev.retz rfl rfl H
    exact Or.inl ⟨h1, z1, z2⟩
  · rw [if_neg h1] at H
    have H : Ev none e 169 129 [some (.ref 633), some (.int l), c2, c3, c4] [.int 59, .ref 633] M v M' 0 0 := Ev.back 2 (fun n => rfl) H
    obtain ⟨e1, rfl⟩ := Ev.dpos rfl rfl H
    obtain ⟨vK2, MK2, K2, H⟩ := Ev.callb (fun n => gs_7 rfl rfl (show gCal (.invokevirtual 234) 11 (.int 59 :: .ref 633 :: []) M = some (.inr (166, [some (.ref 633), some (.int 59)], [])) from by show @cond (Option ((List Value × Mem) ⊕ (Nat × Lo × List Value))) (true && gRecv M (.ref 633) 11 && gRoom [] && true) (some (.inr (166, [some (.ref 633), some (.int 59)], []))) none = _; rw [recv_s hS.1 qa_633 qo_61]; rfl)) H
    have K2 : Ev none e1 166 0 [some (.ref 633), some (.int 59)] [] M vK2 MK2 0 0 := K2
    have HF := H
    exact Or.inr (⟨h1, ⟨e1, vK2, MK2, rfl, K2, HF⟩⟩)
theorem rdq_132 {e : Nat} {M M' : Mem} {v : Option Value} {l y : Int32} {c2 c3 c4 : Option Value} (hS : SQ M) (H : Ev none e 169 132 [some (.ref 633), some (.int l), c2, c3, c4] [.int y] M v M' 0 0) : (y = 0 ∧ v = some (.int 0) ∧ M' = M) ∨ (¬ (y = 0) ∧ (0 ≤ (7 : Int32).toInt ∧ (7 : Int32).toInt < 8) ∧ (0 ≤ (7 : Int32).toInt ∧ (7 : Int32).toInt < 8) ∧ Ev none e 169 0 [some (.ref 633), some (.int l), c2, c3, c4] [] (wI M 639 ((7 : Int32).toNatClampNeg) ((rI M 639 7) + 1)) v M' 0 0) := by
  have H : Ev none e 169 (if y = 0 then 135 else 137) [some (.ref 633), some (.int l), c2, c3, c4] [] M v M' 0 0 := Ev.back 1 (fun n => rfl) H
  by_cases h1 : y = 0
  · rw [if_pos h1] at H
    have H : Ev none e 169 136 [some (.ref 633), some (.int l), c2, c3, c4] [.int 0] M v M' 0 0 := Ev.back 1 (fun n => rfl) H
    obtain ⟨z1, z2⟩ := Ev.retz rfl rfl H
    exact Or.inl ⟨h1, z1, z2⟩
  · rw [if_neg h1] at H
    have H : Ev none e 169 138 [some (.ref 633), some (.int l), c2, c3, c4] [.ref 633] M v M' 0 0 := Ev.back 1 (fun n => rfl) H
    have H : Ev none e 169 141 [some (.ref 633), some (.int l), c2, c3, c4] [.ref 639] M v M' 0 0 := Ev.back 1 (gs_3 rfl rfl (gf_u hS.1 qa_633 qr_61_9 qu_67 rfl)) H
    have H : Ev none e 169 144 [some (.ref 633), some (.int l), c2, c3, c4] [.int 7, .ref 639, .int 7, .ref 639] M v M' 0 0 := Ev.back 2 (fun n => rfl) H
    obtain ⟨b2, H⟩ := Ev.ial rfl rfl hS.1 qa_639 qw_67 H
    have H : Ev none e 169 145 [some (.ref 633), some (.int l), c2, c3, c4] [.int (rI M 639 7), .int 7, .ref 639] M v M' 0 0 := H
    have H : Ev none e 169 147 [some (.ref 633), some (.int l), c2, c3, c4] [.int ((rI M 639 7) + 1), .int 7, .ref 639] M v M' 0 0 := Ev.back 2 (fun n => rfl) H
    obtain ⟨b3, H⟩ := Ev.ias rfl rfl hS.1 qa_639 qw_67 H
    obtain ⟨N4, eN4⟩ : ∃ N, N = (wI M 639 ((7 : Int32).toNatClampNeg) ((rI M 639 7) + 1)) := ⟨_, rfl⟩
    have hN4 : SQ N4 := by rw [eN4]; exact hS.ki
    have H : Ev none e 169 148 [some (.ref 633), some (.int l), c2, c3, c4] [] N4 v M' 0 0 := by rw [eN4]; exact H
    have H : Ev none e 169 0 [some (.ref 633), some (.int l), c2, c3, c4] [] N4 v M' 0 0 := Ev.back 1 (fun n => rfl) H
    have HF := H
    subst eN4
    exact Or.inr (⟨h1, b2, b3, HF⟩)
/-! THE REFERENCE: pieces of text, law, habit (made by gre.py) -/
theorem teq_0 {e : Nat} {M M' : Mem} {v : Option Value} {t l : Int32} {c3 c4 c5 : Option Value} (hS : SQ M) (H : Ev none e 181 0 [some (.ref 633), some (.int t), some (.int l), c3, c4, c5] [] M v M' 0 0) : (0 ≤ (7 : Int32).toInt ∧ (7 : Int32).toInt < 8) ∧ (∃ e1 v1 M1, e = e1 + 1 ∧ Ev none e1 162 0 [some (.ref 633), none, none, none] [] (wF (wF (wI (wF M 633 26 0) 639 ((7 : Int32).toNatClampNeg) 0) 633 19 0) 633 21 0) v1 M1 0 0 ∧ Ev none e 181 27 [some (.ref 633), some (.int t), some (.int l), c3, c4, c5] (v1.toList ++ []) M1 v M' 0 0) := by
  have H : Ev none e 181 2 [some (.ref 633), some (.int t), some (.int l), c3, c4, c5] [.int 0, .ref 633] M v M' 0 0 := Ev.back 2 (fun n => rfl) H
  obtain ⟨N2, eN2⟩ : ∃ N, N = (wF M 633 26 0) := ⟨_, rfl⟩
  have hN2 : SQ N2 := by rw [eN2]; exact hS.kf
  have H : Ev none e 181 5 [some (.ref 633), some (.int t), some (.int l), c3, c4, c5] [] N2 v M' 0 0 := by rw [eN2]; exact Ev.pfi rfl rfl rfl hS.1 qa_633 qi_61_26 H
  have H : Ev none e 181 6 [some (.ref 633), some (.int t), some (.int l), c3, c4, c5] [.ref 633] N2 v M' 0 0 := Ev.back 1 (fun n => rfl) H
  have H : Ev none e 181 9 [some (.ref 633), some (.int t), some (.int l), c3, c4, c5] [.ref 639] N2 v M' 0 0 := Ev.back 1 (gs_3 rfl rfl (gf_u hN2.1 qa_633 qr_61_9 qu_67 rfl)) H
  have H : Ev none e 181 12 [some (.ref 633), some (.int t), some (.int l), c3, c4, c5] [.int 0, .int 7, .ref 639] N2 v M' 0 0 := Ev.back 2 (fun n => rfl) H
  obtain ⟨b3, H⟩ := Ev.ias rfl rfl hN2.1 qa_639 qw_67 H
  obtain ⟨N4, eN4⟩ : ∃ N, N = (wI N2 639 ((7 : Int32).toNatClampNeg) 0) := ⟨_, rfl⟩
  have hN4 : SQ N4 := by rw [eN4]; exact hN2.ki
  have H : Ev none e 181 13 [some (.ref 633), some (.int t), some (.int l), c3, c4, c5] [] N4 v M' 0 0 := by rw [eN4]; exact H
  have H : Ev none e 181 15 [some (.ref 633), some (.int t), some (.int l), c3, c4, c5] [.int 0, .ref 633] N4 v M' 0 0 := Ev.back 2 (fun n => rfl) H
  obtain ⟨N6, eN6⟩ : ∃ N, N = (wF N4 633 19 0) := ⟨_, rfl⟩
  have hN6 : SQ N6 := by rw [eN6]; exact hN4.kf
  have H : Ev none e 181 18 [some (.ref 633), some (.int t), some (.int l), c3, c4, c5] [] N6 v M' 0 0 := by rw [eN6]; exact Ev.pfi rfl rfl rfl hN4.1 qa_633 qi_61_19 H
  have H : Ev none e 181 20 [some (.ref 633), some (.int t), some (.int l), c3, c4, c5] [.int 0, .ref 633] N6 v M' 0 0 := Ev.back 2 (fun n => rfl) H
  obtain ⟨N8, eN8⟩ : ∃ N, N = (wF N6 633 21 0) := ⟨_, rfl⟩
  have hN8 : SQ N8 := by rw [eN8]; exact hN6.kf
  have H : Ev none e 181 23 [some (.ref 633), some (.int t), some (.int l), c3, c4, c5] [] N8 v M' 0 0 := by rw [eN8]; exact Ev.pfi rfl rfl rfl hN6.1 qa_633 qi_61_21 H
  have H : Ev none e 181 24 [some (.ref 633), some (.int t), some (.int l), c3, c4, c5] [.ref 633] N8 v M' 0 0 := Ev.back 1 (fun n => rfl) H
  obtain ⟨e1, rfl⟩ := Ev.dpos rfl rfl H
  obtain ⟨vK9, MK9, K9, H⟩ := Ev.callb (fun n => gs_7 rfl rfl (show gCal (.invokevirtual 201) 11 (.ref 633 :: []) N8 = some (.inr (162, [some (.ref 633), none, none, none], [])) from by show @cond (Option ((List Value × Mem) ⊕ (Nat × Lo × List Value))) (true && gRecv N8 (.ref 633) 11 && gRoom [] && true) (some (.inr (162, [some (.ref 633), none, none, none], []))) none = _; rw [recv_s hN8.1 qa_633 qo_61]; rfl)) H
  have K9 : Ev none e1 162 0 [some (.ref 633), none, none, none] [] N8 vK9 MK9 0 0 := K9
  have HF := H
  subst eN2 eN4 eN6 eN8
  exact ⟨b3, ⟨e1, vK9, MK9, rfl, K9, HF⟩⟩
theorem teq_27 {e : Nat} {M M' : Mem} {v : Option Value} {t l : Int32} {c3 c4 c5 : Option Value} (hS : SQ M) (H : Ev none e 181 27 [some (.ref 633), some (.int t), some (.int l), c3, c4, c5] [] M v M' 0 0) : (∃ e1 v1 M1, e = e1 + 1 ∧ Ev none e1 169 0 [some (.ref 633), some (.int l), none, none, none] [] M v1 M1 0 0 ∧ Ev none e 181 32 [some (.ref 633), some (.int t), some (.int l), c3, c4, c5] (v1.toList ++ []) M1 v M' 0 0) := by
  have H : Ev none e 181 29 [some (.ref 633), some (.int t), some (.int l), c3, c4, c5] [.int l, .ref 633] M v M' 0 0 := Ev.back 2 (fun n => rfl) H
  obtain ⟨e1, rfl⟩ := Ev.dpos rfl rfl H
  obtain ⟨vK1, MK1, K1, H⟩ := Ev.callb (fun n => gs_7 rfl rfl (show gCal (.invokevirtual 321) 11 (.int l :: .ref 633 :: []) M = some (.inr (169, [some (.ref 633), some (.int l), none, none, none], [])) from by show @cond (Option ((List Value × Mem) ⊕ (Nat × Lo × List Value))) (true && gRecv M (.ref 633) 11 && gRoom [] && true) (some (.inr (169, [some (.ref 633), some (.int l), none, none, none], []))) none = _; rw [recv_s hS.1 qa_633 qo_61]; rfl)) H
  have K1 : Ev none e1 169 0 [some (.ref 633), some (.int l), none, none, none] [] M vK1 MK1 0 0 := K1
  have HF := H
  exact ⟨e1, vK1, MK1, rfl, K1, HF⟩
theorem teq_32 {e : Nat} {M M' : Mem} {v : Option Value} {t l y : Int32} {c3 c4 c5 : Option Value} (hS : SQ M) (H : Ev none e 181 32 [some (.ref 633), some (.int t), some (.int l), c3, c4, c5] [.int y] M v M' 0 0) : (y = 0 ∧ v = some (.int ((-1) - (zI M 633 27))) ∧ M' = M) ∨ (¬ (y = 0) ∧ (0 ≤ (7 : Int32).toInt ∧ (7 : Int32).toInt < 8) ∧ (0 ≤ t.toInt ∧ t.toInt < 8) ∧ Ev none e 181 57 [some (.ref 633), some (.int t), some (.int l), some (.int 0), c4, c5] [] (wI M 639 t.toNatClampNeg (rI M 639 7)) v M' 0 0) := by
  have H : Ev none e 181 (if y = 0 then 35 else 42) [some (.ref 633), some (.int t), some (.int l), c3, c4, c5] [] M v M' 0 0 := Ev.back 1 (fun n => rfl) H
  by_cases h1 : y = 0
  · rw [if_pos h1] at H
    have H : Ev none e 181 37 [some (.ref 633), some (.int t), some (.int l), c3, c4, c5] [.ref 633, .int (-1)] M v M' 0 0 := Ev.back 2 (fun n => rfl) H
    have H : Ev none e 181 40 [some (.ref 633), some (.int t), some (.int l), c3, c4, c5] [.int (zI M 633 27), .int (-1)] M v M' 0 0 := Ev.back 1 (gs_3 rfl rfl (gf_i hS.1 qa_633 qi_61_27 rfl)) H
    obtain ⟨m2, em2⟩ : ∃ m : Int32, m = (-1) := ⟨_, rfl⟩
    have H : Ev none e 181 40 [some (.ref 633), some (.int t), some (.int l), c3, c4, c5] [.int (zI M 633 27), .int m2] M v M' 0 0 := by rw [em2]; exact H
    have H : Ev none e 181 41 [some (.ref 633), some (.int t), some (.int l), c3, c4, c5] [.int (m2 - (zI M 633 27))] M v M' 0 0 := Ev.back 1 (fun n => rfl) H
    rw [em2] at H
    obtain ⟨z1, z2⟩ := Ev.retz rfl rfl H
    exact Or.inl ⟨h1, z1, z2⟩
  · rw [if_neg h1] at H
    have H : Ev none e 181 43 [some (.ref 633), some (.int t), some (.int l), c3, c4, c5] [.ref 633] M v M' 0 0 := Ev.back 1 (fun n => rfl) H
    have H : Ev none e 181 46 [some (.ref 633), some (.int t), some (.int l), c3, c4, c5] [.ref 639] M v M' 0 0 := Ev.back 1 (gs_3 rfl rfl (gf_u hS.1 qa_633 qr_61_9 qu_67 rfl)) H
    have H : Ev none e 181 48 [some (.ref 633), some (.int t), some (.int l), c3, c4, c5] [.ref 633, .int t, .ref 639] M v M' 0 0 := Ev.back 2 (fun n => rfl) H
    have H : Ev none e 181 51 [some (.ref 633), some (.int t), some (.int l), c3, c4, c5] [.ref 639, .int t, .ref 639] M v M' 0 0 := Ev.back 1 (gs_3 rfl rfl (gf_u hS.1 qa_633 qr_61_9 qu_67 rfl)) H
    have H : Ev none e 181 53 [some (.ref 633), some (.int t), some (.int l), c3, c4, c5] [.int 7, .ref 639, .int t, .ref 639] M v M' 0 0 := Ev.back 1 (fun n => rfl) H
    obtain ⟨b3, H⟩ := Ev.ial rfl rfl hS.1 qa_639 qw_67 H
    have H : Ev none e 181 54 [some (.ref 633), some (.int t), some (.int l), c3, c4, c5] [.int (rI M 639 7), .int t, .ref 639] M v M' 0 0 := H
    obtain ⟨b4, H⟩ := Ev.ias rfl rfl hS.1 qa_639 qw_67 H
    obtain ⟨N5, eN5⟩ : ∃ N, N = (wI M 639 t.toNatClampNeg (rI M 639 7)) := ⟨_, rfl⟩
    have hN5 : SQ N5 := by rw [eN5]; exact hS.ki
    have H : Ev none e 181 55 [some (.ref 633), some (.int t), some (.int l), c3, c4, c5] [] N5 v M' 0 0 := by rw [eN5]; exact H
    have H : Ev none e 181 57 [some (.ref 633), some (.int t), some (.int l), some (.int 0), c4, c5] [] N5 v M' 0 0 := Ev.back 2 (fun n => rfl) H
    have HF := H
    subst eN5
    exact Or.inr (⟨h1, b3, b4, HF⟩)
theorem teq_57 {e : Nat} {M M' : Mem} {v : Option Value} {t l k : Int32} {c4 c5 : Option Value} (hS : SQ M) (H : Ev none e 181 57 [some (.ref 633), some (.int t), some (.int l), some (.int k), c4, c5] [] M v M' 0 0) : (16 ≤ k ∧ Ev none e 181 155 [some (.ref 633), some (.int t), some (.int l), some (.int 0), c4, c5] [] M v M' 0 0) ∨ (¬ (16 ≤ k) ∧ (0 ≤ (112 + k).toInt ∧ (112 + k).toInt < 128) ∧ (0 ≤ ((16 * t) + k).toInt ∧ ((16 * t) + k).toInt < 128) ∧ (0 ≤ (112 + k).toInt ∧ (112 + k).toInt < 128) ∧ (0 ≤ ((16 * t) + k).toInt ∧ ((16 * t) + k).toInt < 128) ∧ (0 ≤ (112 + k).toInt ∧ (112 + k).toInt < 128) ∧ (0 ≤ ((16 * t) + k).toInt ∧ ((16 * t) + k).toInt < 128) ∧ (0 ≤ (112 + k).toInt ∧ (112 + k).toInt < 128) ∧ (0 ≤ ((16 * t) + k).toInt ∧ ((16 * t) + k).toInt < 128) ∧ (0 ≤ (112 + k).toInt ∧ (112 + k).toInt < 128) ∧ (0 ≤ ((16 * t) + k).toInt ∧ ((16 * t) + k).toInt < 128) ∧ Ev none e 181 57 [some (.ref 633), some (.int t), some (.int l), some (.int (k + 1)), some (.int (112 + k)), some (.int ((16 * t) + k))] [] (wI (wI (wI (wI (wI M 640 (((16 * t) + k).toNatClampNeg) (rI M 640 (112 + k))) 641 (((16 * t) + k).toNatClampNeg) (rI M 641 (112 + k))) 642 (((16 * t) + k).toNatClampNeg) (rI M 642 (112 + k))) 643 (((16 * t) + k).toNatClampNeg) (rI M 643 (112 + k))) 644 (((16 * t) + k).toNatClampNeg) (rI M 644 (112 + k))) v M' 0 0) := by
  have H : Ev none e 181 (if 16 ≤ k then 153 else 63) [some (.ref 633), some (.int t), some (.int l), some (.int k), c4, c5] [] M v M' 0 0 := Ev.back 3 (fun n => rfl) H
  by_cases h1 : 16 ≤ k
  · rw [if_pos h1] at H
    have H : Ev none e 181 155 [some (.ref 633), some (.int t), some (.int l), some (.int 0), c4, c5] [] M v M' 0 0 := Ev.back 2 (fun n => rfl) H
    have HF := H
    exact Or.inl ⟨h1, HF⟩
  · rw [if_neg h1] at H
    have H : Ev none e 181 78 [some (.ref 633), some (.int t), some (.int l), some (.int k), some (.int (112 + k)), some (.int ((16 * t) + k))] [.ref 633] M v M' 0 0 := Ev.back 11 (fun n => rfl) H
    have H : Ev none e 181 81 [some (.ref 633), some (.int t), some (.int l), some (.int k), some (.int (112 + k)), some (.int ((16 * t) + k))] [.ref 640] M v M' 0 0 := Ev.back 1 (gs_3 rfl rfl (gf_u hS.1 qa_633 qr_61_10 qu_68 rfl)) H
    have H : Ev none e 181 84 [some (.ref 633), some (.int t), some (.int l), some (.int k), some (.int (112 + k)), some (.int ((16 * t) + k))] [.ref 633, .int ((16 * t) + k), .ref 640] M v M' 0 0 := Ev.back 2 (fun n => rfl) H
    have H : Ev none e 181 87 [some (.ref 633), some (.int t), some (.int l), some (.int k), some (.int (112 + k)), some (.int ((16 * t) + k))] [.ref 640, .int ((16 * t) + k), .ref 640] M v M' 0 0 := Ev.back 1 (gs_3 rfl rfl (gf_u hS.1 qa_633 qr_61_10 qu_68 rfl)) H
    have H : Ev none e 181 89 [some (.ref 633), some (.int t), some (.int l), some (.int k), some (.int (112 + k)), some (.int ((16 * t) + k))] [.int (112 + k), .ref 640, .int ((16 * t) + k), .ref 640] M v M' 0 0 := Ev.back 1 (fun n => rfl) H
    obtain ⟨b2, H⟩ := Ev.ial rfl rfl hS.1 qa_640 qw_68 H
    have H : Ev none e 181 90 [some (.ref 633), some (.int t), some (.int l), some (.int k), some (.int (112 + k)), some (.int ((16 * t) + k))] [.int (rI M 640 (112 + k)), .int ((16 * t) + k), .ref 640] M v M' 0 0 := H
    obtain ⟨b3, H⟩ := Ev.ias rfl rfl hS.1 qa_640 qw_68 H
    obtain ⟨N4, eN4⟩ : ∃ N, N = (wI M 640 (((16 * t) + k).toNatClampNeg) (rI M 640 (112 + k))) := ⟨_, rfl⟩
    have hN4 : SQ N4 := by rw [eN4]; exact hS.ki
    have H : Ev none e 181 91 [some (.ref 633), some (.int t), some (.int l), some (.int k), some (.int (112 + k)), some (.int ((16 * t) + k))] [] N4 v M' 0 0 := by rw [eN4]; exact H
    have H : Ev none e 181 92 [some (.ref 633), some (.int t), some (.int l), some (.int k), some (.int (112 + k)), some (.int ((16 * t) + k))] [.ref 633] N4 v M' 0 0 := Ev.back 1 (fun n => rfl) H
    have H : Ev none e 181 95 [some (.ref 633), some (.int t), some (.int l), some (.int k), some (.int (112 + k)), some (.int ((16 * t) + k))] [.ref 641] N4 v M' 0 0 := Ev.back 1 (gs_3 rfl rfl (gf_u hN4.1 qa_633 qr_61_11 qu_69 rfl)) H
    have H : Ev none e 181 98 [some (.ref 633), some (.int t), some (.int l), some (.int k), some (.int (112 + k)), some (.int ((16 * t) + k))] [.ref 633, .int ((16 * t) + k), .ref 641] N4 v M' 0 0 := Ev.back 2 (fun n => rfl) H
    have H : Ev none e 181 101 [some (.ref 633), some (.int t), some (.int l), some (.int k), some (.int (112 + k)), some (.int ((16 * t) + k))] [.ref 641, .int ((16 * t) + k), .ref 641] N4 v M' 0 0 := Ev.back 1 (gs_3 rfl rfl (gf_u hN4.1 qa_633 qr_61_11 qu_69 rfl)) H
    have H : Ev none e 181 103 [some (.ref 633), some (.int t), some (.int l), some (.int k), some (.int (112 + k)), some (.int ((16 * t) + k))] [.int (112 + k), .ref 641, .int ((16 * t) + k), .ref 641] N4 v M' 0 0 := Ev.back 1 (fun n => rfl) H
    obtain ⟨b5, H⟩ := Ev.ial rfl rfl hN4.1 qa_641 qw_69 H
    have H : Ev none e 181 104 [some (.ref 633), some (.int t), some (.int l), some (.int k), some (.int (112 + k)), some (.int ((16 * t) + k))] [.int (rI N4 641 (112 + k)), .int ((16 * t) + k), .ref 641] N4 v M' 0 0 := H
    rw [show rI N4 641 (112 + k) = rI M 641 (112 + k) from by rw [eN4]; exact rN_wI_ne (fun q => absurd q.1 (by decide))] at H
    obtain ⟨b6, H⟩ := Ev.ias rfl rfl hN4.1 qa_641 qw_69 H
    obtain ⟨N7, eN7⟩ : ∃ N, N = (wI N4 641 (((16 * t) + k).toNatClampNeg) (rI M 641 (112 + k))) := ⟨_, rfl⟩
    have hN7 : SQ N7 := by rw [eN7]; exact hN4.ki
    have H : Ev none e 181 105 [some (.ref 633), some (.int t), some (.int l), some (.int k), some (.int (112 + k)), some (.int ((16 * t) + k))] [] N7 v M' 0 0 := by rw [eN7]; exact H
    have H : Ev none e 181 106 [some (.ref 633), some (.int t), some (.int l), some (.int k), some (.int (112 + k)), some (.int ((16 * t) + k))] [.ref 633] N7 v M' 0 0 := Ev.back 1 (fun n => rfl) H
    have H : Ev none e 181 109 [some (.ref 633), some (.int t), some (.int l), some (.int k), some (.int (112 + k)), some (.int ((16 * t) + k))] [.ref 642] N7 v M' 0 0 := Ev.back 1 (gs_3 rfl rfl (gf_u hN7.1 qa_633 qr_61_12 qu_70 rfl)) H
    have H : Ev none e 181 112 [some (.ref 633), some (.int t), some (.int l), some (.int k), some (.int (112 + k)), some (.int ((16 * t) + k))] [.ref 633, .int ((16 * t) + k), .ref 642] N7 v M' 0 0 := Ev.back 2 (fun n => rfl) H
    have H : Ev none e 181 115 [some (.ref 633), some (.int t), some (.int l), some (.int k), some (.int (112 + k)), some (.int ((16 * t) + k))] [.ref 642, .int ((16 * t) + k), .ref 642] N7 v M' 0 0 := Ev.back 1 (gs_3 rfl rfl (gf_u hN7.1 qa_633 qr_61_12 qu_70 rfl)) H
    have H : Ev none e 181 117 [some (.ref 633), some (.int t), some (.int l), some (.int k), some (.int (112 + k)), some (.int ((16 * t) + k))] [.int (112 + k), .ref 642, .int ((16 * t) + k), .ref 642] N7 v M' 0 0 := Ev.back 1 (fun n => rfl) H
    obtain ⟨b8, H⟩ := Ev.ial rfl rfl hN7.1 qa_642 qw_70 H
    have H : Ev none e 181 118 [some (.ref 633), some (.int t), some (.int l), some (.int k), some (.int (112 + k)), some (.int ((16 * t) + k))] [.int (rI N7 642 (112 + k)), .int ((16 * t) + k), .ref 642] N7 v M' 0 0 := H
    rw [(show rI N7 642 (112 + k) = rI N4 642 (112 + k) from by rw [eN7]; exact rN_wI_ne (fun q => absurd q.1 (by decide))).trans (show rI N4 642 (112 + k) = rI M 642 (112 + k) from by rw [eN4]; exact rN_wI_ne (fun q => absurd q.1 (by decide)))] at H
    obtain ⟨b9, H⟩ := Ev.ias rfl rfl hN7.1 qa_642 qw_70 H
    obtain ⟨N10, eN10⟩ : ∃ N, N = (wI N7 642 (((16 * t) + k).toNatClampNeg) (rI M 642 (112 + k))) := ⟨_, rfl⟩
    have hN10 : SQ N10 := by rw [eN10]; exact hN7.ki
    have H : Ev none e 181 119 [some (.ref 633), some (.int t), some (.int l), some (.int k), some (.int (112 + k)), some (.int ((16 * t) + k))] [] N10 v M' 0 0 := by rw [eN10]; exact H
    have H : Ev none e 181 120 [some (.ref 633), some (.int t), some (.int l), some (.int k), some (.int (112 + k)), some (.int ((16 * t) + k))] [.ref 633] N10 v M' 0 0 := Ev.back 1 (fun n => rfl) H
    have H : Ev none e 181 123 [some (.ref 633), some (.int t), some (.int l), some (.int k), some (.int (112 + k)), some (.int ((16 * t) + k))] [.ref 643] N10 v M' 0 0 := Ev.back 1 (gs_3 rfl rfl (gf_u hN10.1 qa_633 qr_61_13 qu_71 rfl)) H
    have H : Ev none e 181 126 [some (.ref 633), some (.int t), some (.int l), some (.int k), some (.int (112 + k)), some (.int ((16 * t) + k))] [.ref 633, .int ((16 * t) + k), .ref 643] N10 v M' 0 0 := Ev.back 2 (fun n => rfl) H
    have H : Ev none e 181 129 [some (.ref 633), some (.int t), some (.int l), some (.int k), some (.int (112 + k)), some (.int ((16 * t) + k))] [.ref 643, .int ((16 * t) + k), .ref 643] N10 v M' 0 0 := Ev.back 1 (gs_3 rfl rfl (gf_u hN10.1 qa_633 qr_61_13 qu_71 rfl)) H
    have H : Ev none e 181 131 [some (.ref 633), some (.int t), some (.int l), some (.int k), some (.int (112 + k)), some (.int ((16 * t) + k))] [.int (112 + k), .ref 643, .int ((16 * t) + k), .ref 643] N10 v M' 0 0 := Ev.back 1 (fun n => rfl) H
    obtain ⟨b11, H⟩ := Ev.ial rfl rfl hN10.1 qa_643 qw_71 H
    have H : Ev none e 181 132 [some (.ref 633), some (.int t), some (.int l), some (.int k), some (.int (112 + k)), some (.int ((16 * t) + k))] [.int (rI N10 643 (112 + k)), .int ((16 * t) + k), .ref 643] N10 v M' 0 0 := H
    rw [((show rI N10 643 (112 + k) = rI N7 643 (112 + k) from by rw [eN10]; exact rN_wI_ne (fun q => absurd q.1 (by decide))).trans (show rI N7 643 (112 + k) = rI N4 643 (112 + k) from by rw [eN7]; exact rN_wI_ne (fun q => absurd q.1 (by decide)))).trans (show rI N4 643 (112 + k) = rI M 643 (112 + k) from by rw [eN4]; exact rN_wI_ne (fun q => absurd q.1 (by decide)))] at H
    obtain ⟨b12, H⟩ := Ev.ias rfl rfl hN10.1 qa_643 qw_71 H
    obtain ⟨N13, eN13⟩ : ∃ N, N = (wI N10 643 (((16 * t) + k).toNatClampNeg) (rI M 643 (112 + k))) := ⟨_, rfl⟩
    have hN13 : SQ N13 := by rw [eN13]; exact hN10.ki
    have H : Ev none e 181 133 [some (.ref 633), some (.int t), some (.int l), some (.int k), some (.int (112 + k)), some (.int ((16 * t) + k))] [] N13 v M' 0 0 := by rw [eN13]; exact H
    have H : Ev none e 181 134 [some (.ref 633), some (.int t), some (.int l), some (.int k), some (.int (112 + k)), some (.int ((16 * t) + k))] [.ref 633] N13 v M' 0 0 := Ev.back 1 (fun n => rfl) H
    have H : Ev none e 181 137 [some (.ref 633), some (.int t), some (.int l), some (.int k), some (.int (112 + k)), some (.int ((16 * t) + k))] [.ref 644] N13 v M' 0 0 := Ev.back 1 (gs_3 rfl rfl (gf_u hN13.1 qa_633 qr_61_14 qu_72 rfl)) H
    have H : Ev none e 181 140 [some (.ref 633), some (.int t), some (.int l), some (.int k), some (.int (112 + k)), some (.int ((16 * t) + k))] [.ref 633, .int ((16 * t) + k), .ref 644] N13 v M' 0 0 := Ev.back 2 (fun n => rfl) H
    have H : Ev none e 181 143 [some (.ref 633), some (.int t), some (.int l), some (.int k), some (.int (112 + k)), some (.int ((16 * t) + k))] [.ref 644, .int ((16 * t) + k), .ref 644] N13 v M' 0 0 := Ev.back 1 (gs_3 rfl rfl (gf_u hN13.1 qa_633 qr_61_14 qu_72 rfl)) H
    have H : Ev none e 181 145 [some (.ref 633), some (.int t), some (.int l), some (.int k), some (.int (112 + k)), some (.int ((16 * t) + k))] [.int (112 + k), .ref 644, .int ((16 * t) + k), .ref 644] N13 v M' 0 0 := Ev.back 1 (fun n => rfl) H
    obtain ⟨b14, H⟩ := Ev.ial rfl rfl hN13.1 qa_644 qw_72 H
    have H : Ev none e 181 146 [some (.ref 633), some (.int t), some (.int l), some (.int k), some (.int (112 + k)), some (.int ((16 * t) + k))] [.int (rI N13 644 (112 + k)), .int ((16 * t) + k), .ref 644] N13 v M' 0 0 := H
    rw [(((show rI N13 644 (112 + k) = rI N10 644 (112 + k) from by rw [eN13]; exact rN_wI_ne (fun q => absurd q.1 (by decide))).trans (show rI N10 644 (112 + k) = rI N7 644 (112 + k) from by rw [eN10]; exact rN_wI_ne (fun q => absurd q.1 (by decide)))).trans (show rI N7 644 (112 + k) = rI N4 644 (112 + k) from by rw [eN7]; exact rN_wI_ne (fun q => absurd q.1 (by decide)))).trans (show rI N4 644 (112 + k) = rI M 644 (112 + k) from by rw [eN4]; exact rN_wI_ne (fun q => absurd q.1 (by decide)))] at H
    obtain ⟨b15, H⟩ := Ev.ias rfl rfl hN13.1 qa_644 qw_72 H
    obtain ⟨N16, eN16⟩ : ∃ N, N = (wI N13 644 (((16 * t) + k).toNatClampNeg) (rI M 644 (112 + k))) := ⟨_, rfl⟩
    have hN16 : SQ N16 := by rw [eN16]; exact hN13.ki
    have H : Ev none e 181 147 [some (.ref 633), some (.int t), some (.int l), some (.int k), some (.int (112 + k)), some (.int ((16 * t) + k))] [] N16 v M' 0 0 := by rw [eN16]; exact H
    have H : Ev none e 181 57 [some (.ref 633), some (.int t), some (.int l), some (.int (k + 1)), some (.int (112 + k)), some (.int ((16 * t) + k))] [] N16 v M' 0 0 := Ev.back 2 (fun n => rfl) H
    have HF := H
    subst eN4 eN7 eN10 eN13 eN16
    exact Or.inr (⟨h1, b2, b3, b5, b6, b8, b9, b11, b12, b14, b15, HF⟩)
theorem teq_155 {e : Nat} {M M' : Mem} {v : Option Value} {t l k : Int32} {c4 c5 : Option Value} (hS : SQ M) (H : Ev none e 181 155 [some (.ref 633), some (.int t), some (.int l), some (.int k), c4, c5] [] M v M' 0 0) : (200 ≤ k ∧ (0 ≤ t.toInt ∧ t.toInt < 8) ∧ v = some (.int (rI M 639 t)) ∧ M' = M) ∨ (¬ (200 ≤ k) ∧ (0 ≤ (1400 + k).toInt ∧ (1400 + k).toInt < 1600) ∧ (0 ≤ ((200 * t) + k).toInt ∧ ((200 * t) + k).toInt < 1600) ∧ (0 ≤ (1400 + k).toInt ∧ (1400 + k).toInt < 1600) ∧ (0 ≤ ((200 * t) + k).toInt ∧ ((200 * t) + k).toInt < 1600) ∧ (0 ≤ (1400 + k).toInt ∧ (1400 + k).toInt < 1600) ∧ (0 ≤ ((200 * t) + k).toInt ∧ ((200 * t) + k).toInt < 1600) ∧ Ev none e 181 155 [some (.ref 633), some (.int t), some (.int l), some (.int (k + 1)), c4, c5] [] (wI (wI (wI M 645 (((200 * t) + k).toNatClampNeg) (rI M 645 (1400 + k))) 646 (((200 * t) + k).toNatClampNeg) (rI M 646 (1400 + k))) 647 (((200 * t) + k).toNatClampNeg) (rI M 647 (1400 + k))) v M' 0 0) := by
  have H : Ev none e 181 (if 200 ≤ k then 234 else 162) [some (.ref 633), some (.int t), some (.int l), some (.int k), c4, c5] [] M v M' 0 0 := Ev.back 3 (fun n => rfl) H
  by_cases h1 : 200 ≤ k
  · rw [if_pos h1] at H
    have H : Ev none e 181 235 [some (.ref 633), some (.int t), some (.int l), some (.int k), c4, c5] [.ref 633] M v M' 0 0 := Ev.back 1 (fun n => rfl) H
    have H : Ev none e 181 238 [some (.ref 633), some (.int t), some (.int l), some (.int k), c4, c5] [.ref 639] M v M' 0 0 := Ev.back 1 (gs_3 rfl rfl (gf_u hS.1 qa_633 qr_61_9 qu_67 rfl)) H
    have H : Ev none e 181 239 [some (.ref 633), some (.int t), some (.int l), some (.int k), c4, c5] [.int t, .ref 639] M v M' 0 0 := Ev.back 1 (fun n => rfl) H
    obtain ⟨b2, H⟩ := Ev.ial rfl rfl hS.1 qa_639 qw_67 H
    have H : Ev none e 181 240 [some (.ref 633), some (.int t), some (.int l), some (.int k), c4, c5] [.int (rI M 639 t)] M v M' 0 0 := H
    obtain ⟨z1, z2⟩ := Ev.retz rfl rfl H
    exact Or.inl ⟨h1, b2, z1, z2⟩
  · rw [if_neg h1] at H
    have H : Ev none e 181 163 [some (.ref 633), some (.int t), some (.int l), some (.int k), c4, c5] [.ref 633] M v M' 0 0 := Ev.back 1 (fun n => rfl) H
    have H : Ev none e 181 166 [some (.ref 633), some (.int t), some (.int l), some (.int k), c4, c5] [.ref 645] M v M' 0 0 := Ev.back 1 (gs_3 rfl rfl (gf_u hS.1 qa_633 qr_61_15 qu_73 rfl)) H
    have H : Ev none e 181 174 [some (.ref 633), some (.int t), some (.int l), some (.int k), c4, c5] [.ref 633, .int ((200 * t) + k), .ref 645] M v M' 0 0 := Ev.back 6 (fun n => rfl) H
    have H : Ev none e 181 177 [some (.ref 633), some (.int t), some (.int l), some (.int k), c4, c5] [.ref 645, .int ((200 * t) + k), .ref 645] M v M' 0 0 := Ev.back 1 (gs_3 rfl rfl (gf_u hS.1 qa_633 qr_61_15 qu_73 rfl)) H
    have H : Ev none e 181 182 [some (.ref 633), some (.int t), some (.int l), some (.int k), c4, c5] [.int (1400 + k), .ref 645, .int ((200 * t) + k), .ref 645] M v M' 0 0 := Ev.back 3 (fun n => rfl) H
    obtain ⟨b3, H⟩ := Ev.ial rfl rfl hS.1 qa_645 qw_73 H
    have H : Ev none e 181 183 [some (.ref 633), some (.int t), some (.int l), some (.int k), c4, c5] [.int (rI M 645 (1400 + k)), .int ((200 * t) + k), .ref 645] M v M' 0 0 := H
    obtain ⟨b4, H⟩ := Ev.ias rfl rfl hS.1 qa_645 qw_73 H
    obtain ⟨N5, eN5⟩ : ∃ N, N = (wI M 645 (((200 * t) + k).toNatClampNeg) (rI M 645 (1400 + k))) := ⟨_, rfl⟩
    have hN5 : SQ N5 := by rw [eN5]; exact hS.ki
    have H : Ev none e 181 184 [some (.ref 633), some (.int t), some (.int l), some (.int k), c4, c5] [] N5 v M' 0 0 := by rw [eN5]; exact H
    have H : Ev none e 181 185 [some (.ref 633), some (.int t), some (.int l), some (.int k), c4, c5] [.ref 633] N5 v M' 0 0 := Ev.back 1 (fun n => rfl) H
    have H : Ev none e 181 188 [some (.ref 633), some (.int t), some (.int l), some (.int k), c4, c5] [.ref 646] N5 v M' 0 0 := Ev.back 1 (gs_3 rfl rfl (gf_u hN5.1 qa_633 qr_61_16 qu_74 rfl)) H
    have H : Ev none e 181 196 [some (.ref 633), some (.int t), some (.int l), some (.int k), c4, c5] [.ref 633, .int ((200 * t) + k), .ref 646] N5 v M' 0 0 := Ev.back 6 (fun n => rfl) H
    have H : Ev none e 181 199 [some (.ref 633), some (.int t), some (.int l), some (.int k), c4, c5] [.ref 646, .int ((200 * t) + k), .ref 646] N5 v M' 0 0 := Ev.back 1 (gs_3 rfl rfl (gf_u hN5.1 qa_633 qr_61_16 qu_74 rfl)) H
    have H : Ev none e 181 204 [some (.ref 633), some (.int t), some (.int l), some (.int k), c4, c5] [.int (1400 + k), .ref 646, .int ((200 * t) + k), .ref 646] N5 v M' 0 0 := Ev.back 3 (fun n => rfl) H
    obtain ⟨b6, H⟩ := Ev.ial rfl rfl hN5.1 qa_646 qw_74 H
    have H : Ev none e 181 205 [some (.ref 633), some (.int t), some (.int l), some (.int k), c4, c5] [.int (rI N5 646 (1400 + k)), .int ((200 * t) + k), .ref 646] N5 v M' 0 0 := H
    rw [show rI N5 646 (1400 + k) = rI M 646 (1400 + k) from by rw [eN5]; exact rN_wI_ne (fun q => absurd q.1 (by decide))] at H
    obtain ⟨b7, H⟩ := Ev.ias rfl rfl hN5.1 qa_646 qw_74 H
    obtain ⟨N8, eN8⟩ : ∃ N, N = (wI N5 646 (((200 * t) + k).toNatClampNeg) (rI M 646 (1400 + k))) := ⟨_, rfl⟩
    have hN8 : SQ N8 := by rw [eN8]; exact hN5.ki
    have H : Ev none e 181 206 [some (.ref 633), some (.int t), some (.int l), some (.int k), c4, c5] [] N8 v M' 0 0 := by rw [eN8]; exact H
    have H : Ev none e 181 207 [some (.ref 633), some (.int t), some (.int l), some (.int k), c4, c5] [.ref 633] N8 v M' 0 0 := Ev.back 1 (fun n => rfl) H
    have H : Ev none e 181 210 [some (.ref 633), some (.int t), some (.int l), some (.int k), c4, c5] [.ref 647] N8 v M' 0 0 := Ev.back 1 (gs_3 rfl rfl (gf_u hN8.1 qa_633 qr_61_17 qu_75 rfl)) H
    have H : Ev none e 181 218 [some (.ref 633), some (.int t), some (.int l), some (.int k), c4, c5] [.ref 633, .int ((200 * t) + k), .ref 647] N8 v M' 0 0 := Ev.back 6 (fun n => rfl) H
    have H : Ev none e 181 221 [some (.ref 633), some (.int t), some (.int l), some (.int k), c4, c5] [.ref 647, .int ((200 * t) + k), .ref 647] N8 v M' 0 0 := Ev.back 1 (gs_3 rfl rfl (gf_u hN8.1 qa_633 qr_61_17 qu_75 rfl)) H
    have H : Ev none e 181 226 [some (.ref 633), some (.int t), some (.int l), some (.int k), c4, c5] [.int (1400 + k), .ref 647, .int ((200 * t) + k), .ref 647] N8 v M' 0 0 := Ev.back 3 (fun n => rfl) H
    obtain ⟨b9, H⟩ := Ev.ial rfl rfl hN8.1 qa_647 qw_75 H
    have H : Ev none e 181 227 [some (.ref 633), some (.int t), some (.int l), some (.int k), c4, c5] [.int (rI N8 647 (1400 + k)), .int ((200 * t) + k), .ref 647] N8 v M' 0 0 := H
    rw [(show rI N8 647 (1400 + k) = rI N5 647 (1400 + k) from by rw [eN8]; exact rN_wI_ne (fun q => absurd q.1 (by decide))).trans (show rI N5 647 (1400 + k) = rI M 647 (1400 + k) from by rw [eN5]; exact rN_wI_ne (fun q => absurd q.1 (by decide)))] at H
    obtain ⟨b10, H⟩ := Ev.ias rfl rfl hN8.1 qa_647 qw_75 H
    obtain ⟨N11, eN11⟩ : ∃ N, N = (wI N8 647 (((200 * t) + k).toNatClampNeg) (rI M 647 (1400 + k))) := ⟨_, rfl⟩
    have hN11 : SQ N11 := by rw [eN11]; exact hN8.ki
    have H : Ev none e 181 228 [some (.ref 633), some (.int t), some (.int l), some (.int k), c4, c5] [] N11 v M' 0 0 := by rw [eN11]; exact H
    have H : Ev none e 181 155 [some (.ref 633), some (.int t), some (.int l), some (.int (k + 1)), c4, c5] [] N11 v M' 0 0 := Ev.back 2 (fun n => rfl) H
    have HF := H
    subst eN5 eN8 eN11
    exact Or.inr (⟨h1, b3, b4, b6, b7, b9, b10, HF⟩)
theorem toq_0 {e : Nat} {M M' : Mem} {v : Option Value} {k d : Int32} (hS : SQ M) (H : Ev none e 182 0 [some (.ref 633), some (.int k), some (.int d), none] [] M v M' 0 0) : (∃ e1 v1 M1, e = e1 + 1 ∧ Ev none e1 172 0 [some (.ref 633), some (.int 0), some (.int k), none] [] M v1 M1 0 0 ∧ Ev none e 182 6 [some (.ref 633), some (.int k), some (.int d), none] (v1.toList ++ []) M1 v M' 0 0) := by
  have H : Ev none e 182 3 [some (.ref 633), some (.int k), some (.int d), none] [.int k, .int 0, .ref 633] M v M' 0 0 := Ev.back 3 (fun n => rfl) H
  obtain ⟨e1, rfl⟩ := Ev.dpos rfl rfl H
  obtain ⟨vK1, MK1, K1, H⟩ := Ev.callb (fun n => gs_7 rfl rfl (show gCal (.invokevirtual 227) 11 (.int k :: .int 0 :: .ref 633 :: []) M = some (.inr (172, [some (.ref 633), some (.int 0), some (.int k), none], [])) from by show @cond (Option ((List Value × Mem) ⊕ (Nat × Lo × List Value))) (true && gRecv M (.ref 633) 11 && gRoom [] && true) (some (.inr (172, [some (.ref 633), some (.int 0), some (.int k), none], []))) none = _; rw [recv_s hS.1 qa_633 qo_61]; rfl)) H
  have K1 : Ev none e1 172 0 [some (.ref 633), some (.int 0), some (.int k), none] [] M vK1 MK1 0 0 := K1
  have HF := H
  exact ⟨e1, vK1, MK1, rfl, K1, HF⟩
theorem toq_6 {e : Nat} {M M' : Mem} {v : Option Value} {k d y : Int32} (hS : SQ M) (H : Ev none e 182 6 [some (.ref 633), some (.int k), some (.int d), none] [.int y] M v M' 0 0) : (0 ≤ y ∧ (0 ≤ y.toInt ∧ y.toInt < 128) ∧ v = some (.int (rI M 642 y)) ∧ M' = M) ∨ (¬ (0 ≤ y) ∧ v = some (.int d) ∧ M' = M) := by
  have H : Ev none e 182 (if 0 ≤ y then 15 else 11) [some (.ref 633), some (.int k), some (.int d), some (.int y)] [] M v M' 0 0 := Ev.back 3 (fun n => rfl) H
  by_cases h1 : 0 ≤ y
  · rw [if_pos h1] at H
    have H : Ev none e 182 16 [some (.ref 633), some (.int k), some (.int d), some (.int y)] [.ref 633] M v M' 0 0 := Ev.back 1 (fun n => rfl) H
    have H : Ev none e 182 19 [some (.ref 633), some (.int k), some (.int d), some (.int y)] [.ref 642] M v M' 0 0 := Ev.back 1 (gs_3 rfl rfl (gf_u hS.1 qa_633 qr_61_12 qu_70 rfl)) H
    have H : Ev none e 182 20 [some (.ref 633), some (.int k), some (.int d), some (.int y)] [.int y, .ref 642] M v M' 0 0 := Ev.back 1 (fun n => rfl) H
    obtain ⟨b2, H⟩ := Ev.ial rfl rfl hS.1 qa_642 qw_70 H
    have H : Ev none e 182 21 [some (.ref 633), some (.int k), some (.int d), some (.int y)] [.int (rI M 642 y)] M v M' 0 0 := H
    obtain ⟨z1, z2⟩ := Ev.retz rfl rfl H
    exact Or.inl ⟨h1, b2, z1, z2⟩
  · rw [if_neg h1] at H
    have H : Ev none e 182 21 [some (.ref 633), some (.int k), some (.int d), some (.int y)] [.int d] M v M' 0 0 := Ev.back 2 (fun n => rfl) H
    obtain ⟨z1, z2⟩ := Ev.retz rfl rfl H
    exact Or.inr (⟨h1, z1, z2⟩)
theorem lrq_0 {e : Nat} {M M' : Mem} {v : Option Value} (hS : SQ M) (H : Ev none e 183 0 [some (.ref 633), none] [] M v M' 0 0) : (∃ e1 v1 M1, e = e1 + 1 ∧ Ev none e1 181 0 [some (.ref 633), some (.int 0), some (.int 1), none, none, none] [] (X_139 (wF M 633 0 0)) v1 M1 0 0 ∧ Ev none e 183 15 [some (.ref 633), none] (v1.toList ++ []) M1 v M' 0 0) := by
  have H : Ev none e 183 2 [some (.ref 633), none] [.int 0, .ref 633] M v M' 0 0 := Ev.back 2 (fun n => rfl) H
  obtain ⟨N2, eN2⟩ : ∃ N, N = (wF M 633 0 0) := ⟨_, rfl⟩
  have hN2 : SQ N2 := by rw [eN2]; exact hS.kf
  have H : Ev none e 183 5 [some (.ref 633), none] [] N2 v M' 0 0 := by rw [eN2]; exact Ev.pfi rfl rfl rfl hS.1 qa_633 qi_61_0 H
  have H : Ev none e 183 6 [some (.ref 633), none] [.ref 633] N2 v M' 0 0 := Ev.back 1 (fun n => rfl) H
  obtain ⟨e1, rfl⟩ := Ev.dpos rfl rfl H
  obtain ⟨vK3, MK3, K3, H⟩ := Ev.callb (fun n => gs_7 rfl rfl (show gCal (.invokevirtual 144) 11 (.ref 633 :: []) N2 = some (.inr (139, [some (.ref 633)], [])) from by show @cond (Option ((List Value × Mem) ⊕ (Nat × Lo × List Value))) (true && gRecv N2 (.ref 633) 11 && gRoom [] && true) (some (.inr (139, [some (.ref 633)], []))) none = _; rw [recv_s hN2.1 qa_633 qo_61]; rfl)) H
  obtain ⟨pK3, qK3⟩ := g_139 hN2 K3
  rw [pK3, qK3] at H
  obtain ⟨N4, eN4⟩ : ∃ N, N = (X_139 N2) := ⟨_, rfl⟩
  have hN4 : SQ N4 := by rw [eN4]; exact X_139_sx hN2
  rw [← eN4] at H
  have H : Ev none (e1 + 1) 183 9 [some (.ref 633), none] [] N4 v M' 0 0 := H
  have H : Ev none (e1 + 1) 183 12 [some (.ref 633), none] [.int 1, .int 0, .ref 633] N4 v M' 0 0 := Ev.back 3 (fun n => rfl) H
  obtain ⟨vK5, MK5, K5, H⟩ := Ev.callb (fun n => gs_7 rfl rfl (show gCal (.invokevirtual 325) 11 (.int 1 :: .int 0 :: .ref 633 :: []) N4 = some (.inr (181, [some (.ref 633), some (.int 0), some (.int 1), none, none, none], [])) from by show @cond (Option ((List Value × Mem) ⊕ (Nat × Lo × List Value))) (true && gRecv N4 (.ref 633) 11 && gRoom [] && true) (some (.inr (181, [some (.ref 633), some (.int 0), some (.int 1), none, none, none], []))) none = _; rw [recv_s hN4.1 qa_633 qo_61]; rfl)) H
  have K5 : Ev none e1 181 0 [some (.ref 633), some (.int 0), some (.int 1), none, none, none] [] N4 vK5 MK5 0 0 := K5
  have HF := H
  subst eN2 eN4
  exact ⟨e1, vK5, MK5, rfl, K5, HF⟩
theorem lrq_15 {e : Nat} {M M' : Mem} {v : Option Value} {y : Int32} (hS : SQ M) (H : Ev none e 183 15 [some (.ref 633), none] [.int y] M v M' 0 0) : (0 ≤ y ∧ (∃ e1 v1 M1, e = e1 + 1 ∧ Ev none e1 182 0 [some (.ref 633), some (.int 2), some (.int 40), none] [] M v1 M1 0 0 ∧ Ev none e 183 30 [some (.ref 633), some (.int y)] (v1.toList ++ [.ref 633]) M1 v M' 0 0)) ∨ (¬ (0 ≤ y) ∧ v = some (.int y) ∧ M' = M) := by
  have H : Ev none e 183 (if 0 ≤ y then 22 else 20) [some (.ref 633), some (.int y)] [] M v M' 0 0 := Ev.back 3 (fun n => rfl) H
  by_cases h1 : 0 ≤ y
  · rw [if_pos h1] at H
    have H : Ev none e 183 27 [some (.ref 633), some (.int y)] [.int 40, .int 2, .ref 633, .ref 633] M v M' 0 0 := Ev.back 4 (fun n => rfl) H
    obtain ⟨e1, rfl⟩ := Ev.dpos rfl rfl H
    obtain ⟨vK2, MK2, K2, H⟩ := Ev.callb (fun n => gs_7 rfl rfl (show gCal (.invokevirtual 329) 11 (.int 40 :: .int 2 :: .ref 633 :: [.ref 633]) M = some (.inr (182, [some (.ref 633), some (.int 2), some (.int 40), none], [.ref 633])) from by show @cond (Option ((List Value × Mem) ⊕ (Nat × Lo × List Value))) (true && gRecv M (.ref 633) 11 && gRoom [.ref 633] && true) (some (.inr (182, [some (.ref 633), some (.int 2), some (.int 40), none], [.ref 633]))) none = _; rw [recv_s hS.1 qa_633 qo_61]; rfl)) H
    have K2 : Ev none e1 182 0 [some (.ref 633), some (.int 2), some (.int 40), none] [] M vK2 MK2 0 0 := K2
    have HF := H
    exact Or.inl ⟨h1, ⟨e1, vK2, MK2, rfl, K2, HF⟩⟩
  · rw [if_neg h1] at H
    have H : Ev none e 183 21 [some (.ref 633), some (.int y)] [.int y] M v M' 0 0 := Ev.back 1 (fun n => rfl) H
    obtain ⟨z1, z2⟩ := Ev.retz rfl rfl H
    exact Or.inr (⟨h1, z1, z2⟩)
theorem lrq_30 {e : Nat} {M M' : Mem} {v : Option Value} {y z : Int32} (hS : SQ M) (H : Ev none e 183 30 [some (.ref 633), some (.int y)] [.int z, .ref 633] M v M' 0 0) : (∃ e1 v1 M1, e = e1 + 1 ∧ Ev none e1 182 0 [some (.ref 633), some (.int 3), some (.int 50), none] [] (wF M 633 28 z) v1 M1 0 0 ∧ Ev none e 183 41 [some (.ref 633), some (.int y)] (v1.toList ++ [.ref 633]) M1 v M' 0 0) := by
  obtain ⟨N2, eN2⟩ : ∃ N, N = (wF M 633 28 z) := ⟨_, rfl⟩
  have hN2 : SQ N2 := by rw [eN2]; exact hS.kf
  have H : Ev none e 183 33 [some (.ref 633), some (.int y)] [] N2 v M' 0 0 := by rw [eN2]; exact Ev.pfi rfl rfl rfl hS.1 qa_633 qi_61_28 H
  have H : Ev none e 183 38 [some (.ref 633), some (.int y)] [.int 50, .int 3, .ref 633, .ref 633] N2 v M' 0 0 := Ev.back 4 (fun n => rfl) H
  obtain ⟨e1, rfl⟩ := Ev.dpos rfl rfl H
  obtain ⟨vK3, MK3, K3, H⟩ := Ev.callb (fun n => gs_7 rfl rfl (show gCal (.invokevirtual 329) 11 (.int 50 :: .int 3 :: .ref 633 :: [.ref 633]) N2 = some (.inr (182, [some (.ref 633), some (.int 3), some (.int 50), none], [.ref 633])) from by show @cond (Option ((List Value × Mem) ⊕ (Nat × Lo × List Value))) (true && gRecv N2 (.ref 633) 11 && gRoom [.ref 633] && true) (some (.inr (182, [some (.ref 633), some (.int 3), some (.int 50), none], [.ref 633]))) none = _; rw [recv_s hN2.1 qa_633 qo_61]; rfl)) H
  have K3 : Ev none e1 182 0 [some (.ref 633), some (.int 3), some (.int 50), none] [] N2 vK3 MK3 0 0 := K3
  have HF := H
  subst eN2
  exact ⟨e1, vK3, MK3, rfl, K3, HF⟩
theorem lrq_41 {e : Nat} {M M' : Mem} {v : Option Value} {y z : Int32} (hS : SQ M) (H : Ev none e 183 41 [some (.ref 633), some (.int y)] [.int z, .ref 633] M v M' 0 0) : (∃ e1 v1 M1, e = e1 + 1 ∧ Ev none e1 182 0 [some (.ref 633), some (.int 4), some (.int 10), none] [] (wF M 633 29 z) v1 M1 0 0 ∧ Ev none e 183 52 [some (.ref 633), some (.int y)] (v1.toList ++ [.ref 633]) M1 v M' 0 0) := by
  obtain ⟨N2, eN2⟩ : ∃ N, N = (wF M 633 29 z) := ⟨_, rfl⟩
  have hN2 : SQ N2 := by rw [eN2]; exact hS.kf
  have H : Ev none e 183 44 [some (.ref 633), some (.int y)] [] N2 v M' 0 0 := by rw [eN2]; exact Ev.pfi rfl rfl rfl hS.1 qa_633 qi_61_29 H
  have H : Ev none e 183 49 [some (.ref 633), some (.int y)] [.int 10, .int 4, .ref 633, .ref 633] N2 v M' 0 0 := Ev.back 4 (fun n => rfl) H
  obtain ⟨e1, rfl⟩ := Ev.dpos rfl rfl H
  obtain ⟨vK3, MK3, K3, H⟩ := Ev.callb (fun n => gs_7 rfl rfl (show gCal (.invokevirtual 329) 11 (.int 10 :: .int 4 :: .ref 633 :: [.ref 633]) N2 = some (.inr (182, [some (.ref 633), some (.int 4), some (.int 10), none], [.ref 633])) from by show @cond (Option ((List Value × Mem) ⊕ (Nat × Lo × List Value))) (true && gRecv N2 (.ref 633) 11 && gRoom [.ref 633] && true) (some (.inr (182, [some (.ref 633), some (.int 4), some (.int 10), none], [.ref 633]))) none = _; rw [recv_s hN2.1 qa_633 qo_61]; rfl)) H
  have K3 : Ev none e1 182 0 [some (.ref 633), some (.int 4), some (.int 10), none] [] N2 vK3 MK3 0 0 := K3
  have HF := H
  subst eN2
  exact ⟨e1, vK3, MK3, rfl, K3, HF⟩
theorem lrq_52 {e : Nat} {M M' : Mem} {v : Option Value} {y z : Int32} (hS : SQ M) (H : Ev none e 183 52 [some (.ref 633), some (.int y)] [.int z, .ref 633] M v M' 0 0) : v = some (.int y) ∧ M' = (wF M 633 30 z) := by
  obtain ⟨N2, eN2⟩ : ∃ N, N = (wF M 633 30 z) := ⟨_, rfl⟩
  have hN2 : SQ N2 := by rw [eN2]; exact hS.kf
  have H : Ev none e 183 55 [some (.ref 633), some (.int y)] [] N2 v M' 0 0 := by rw [eN2]; exact Ev.pfi rfl rfl rfl hS.1 qa_633 qi_61_30 H
  have H : Ev none e 183 56 [some (.ref 633), some (.int y)] [.int y] N2 v M' 0 0 := Ev.back 1 (fun n => rfl) H
  obtain ⟨z1, z2⟩ := Ev.retz rfl rfl H
  subst eN2
  exact ⟨z1, z2⟩
theorem hrq_0 {e : Nat} {M M' : Mem} {v : Option Value} {x : Int32} (hS : SQ M) (H : Ev none e 184 0 [some (.ref 633), some (.int x)] [] M v M' 0 0) : ((G_140 (X_139 (wF M 633 0 0)) x 0 5) = 0 ∧ v = some (.int (-1000)) ∧ M' = (X_139 (wF M 633 0 0))) ∨ (¬ ((G_140 (X_139 (wF M 633 0 0)) x 0 5) = 0) ∧ (∃ e1 v1 M1, e = e1 + 1 ∧ Ev none e1 181 0 [some (.ref 633), some (.int (1 + x)), some (.int 0), none, none, none] [] (X_139 (wF M 633 0 0)) v1 M1 0 0 ∧ Ev none e 184 26 [some (.ref 633), some (.int x)] (v1.toList ++ []) M1 v M' 0 0)) := by
  have H : Ev none e 184 2 [some (.ref 633), some (.int x)] [.int 0, .ref 633] M v M' 0 0 := Ev.back 2 (fun n => rfl) H
  obtain ⟨N2, eN2⟩ : ∃ N, N = (wF M 633 0 0) := ⟨_, rfl⟩
  have hN2 : SQ N2 := by rw [eN2]; exact hS.kf
  have H : Ev none e 184 5 [some (.ref 633), some (.int x)] [] N2 v M' 0 0 := by rw [eN2]; exact Ev.pfi rfl rfl rfl hS.1 qa_633 qi_61_0 H
  have H : Ev none e 184 6 [some (.ref 633), some (.int x)] [.ref 633] N2 v M' 0 0 := Ev.back 1 (fun n => rfl) H
  obtain ⟨e1, rfl⟩ := Ev.dpos rfl rfl H
  obtain ⟨vK3, MK3, K3, H⟩ := Ev.callb (fun n => gs_7 rfl rfl (show gCal (.invokevirtual 144) 11 (.ref 633 :: []) N2 = some (.inr (139, [some (.ref 633)], [])) from by show @cond (Option ((List Value × Mem) ⊕ (Nat × Lo × List Value))) (true && gRecv N2 (.ref 633) 11 && gRoom [] && true) (some (.inr (139, [some (.ref 633)], []))) none = _; rw [recv_s hN2.1 qa_633 qo_61]; rfl)) H
  obtain ⟨pK3, qK3⟩ := g_139 hN2 K3
  rw [pK3, qK3] at H
  obtain ⟨N4, eN4⟩ : ∃ N, N = (X_139 N2) := ⟨_, rfl⟩
  have hN4 : SQ N4 := by rw [eN4]; exact X_139_sx hN2
  rw [← eN4] at H
  have H : Ev none (e1 + 1) 184 9 [some (.ref 633), some (.int x)] [] N4 v M' 0 0 := H
  have H : Ev none (e1 + 1) 184 12 [some (.ref 633), some (.int x)] [.int 5, .int 0, .int x] N4 v M' 0 0 := Ev.back 3 (fun n => rfl) H
  obtain ⟨vK5, MK5, K5, H⟩ := Ev.callb (fun n => rfl) H
  obtain ⟨pK5, qK5⟩ := g_140 hN4 K5
  rw [pK5, qK5] at H
  have H : Ev none (e1 + 1) 184 15 [some (.ref 633), some (.int x)] [.int (G_140 N4 x 0 5)] N4 v M' 0 0 := H
  have H : Ev none (e1 + 1) 184 (if (G_140 N4 x 0 5) = 0 then 29 else 18) [some (.ref 633), some (.int x)] [] N4 v M' 0 0 := Ev.back 1 (fun n => rfl) H
  by_cases h6 : (G_140 N4 x 0 5) = 0
  · rw [if_pos h6] at H
    have H : Ev none (e1 + 1) 184 32 [some (.ref 633), some (.int x)] [.int (-1000)] N4 v M' 0 0 := Ev.back 1 (fun n => rfl) H
    obtain ⟨z1, z2⟩ := Ev.retz rfl rfl H
    subst eN2 eN4
    exact Or.inl ⟨h6, z1, z2⟩
  · rw [if_neg h6] at H
    have H : Ev none (e1 + 1) 184 23 [some (.ref 633), some (.int x)] [.int 0, .int (1 + x), .ref 633] N4 v M' 0 0 := Ev.back 5 (fun n => rfl) H
    obtain ⟨vK7, MK7, K7, H⟩ := Ev.callb (fun n => gs_7 rfl rfl (show gCal (.invokevirtual 325) 11 (.int 0 :: .int (1 + x) :: .ref 633 :: []) N4 = some (.inr (181, [some (.ref 633), some (.int (1 + x)), some (.int 0), none, none, none], [])) from by show @cond (Option ((List Value × Mem) ⊕ (Nat × Lo × List Value))) (true && gRecv N4 (.ref 633) 11 && gRoom [] && true) (some (.inr (181, [some (.ref 633), some (.int (1 + x)), some (.int 0), none, none, none], []))) none = _; rw [recv_s hN4.1 qa_633 qo_61]; rfl)) H
    have K7 : Ev none e1 181 0 [some (.ref 633), some (.int (1 + x)), some (.int 0), none, none, none] [] N4 vK7 MK7 0 0 := K7
    have HF := H
    subst eN2 eN4
    exact Or.inr (⟨h6, ⟨e1, vK7, MK7, rfl, K7, HF⟩⟩)
theorem hrq_26 {e : Nat} {M M' : Mem} {v : Option Value} {x y : Int32} (hS : SQ M) (H : Ev none e 184 26 [some (.ref 633), some (.int x)] [.int y] M v M' 0 0) : v = some (.int y) ∧ M' = M := by
  have H : Ev none e 184 32 [some (.ref 633), some (.int x)] [.int y] M v M' 0 0 := Ev.back 1 (fun n => rfl) H
  obtain ⟨z1, z2⟩ := Ev.retz rfl rfl H
  exact ⟨z1, z2⟩
/-! THE REFERENCE'S line -/
def lawP : List (List Int32 × Int32) := [([119, 101, 97, 114], 0), ([103, 114, 111, 119], 1), ([108, 105, 110, 101], 2), ([109, 117, 100], 3), ([100, 114, 121], 4)]
theorem pk_law : lawP.map (fun q => (pkF q.1, q.2)) = [(2003132786, 0), (1735552887, 1), (1818848869, 2), (7173476, 3), (6582905, 4)] := by decide +kernel
theorem ok_law : ∀ q ∈ lawP, okBw q.1 = true := by decide +kernel
def habP : List (List Int32 × Int32) := [([119, 101, 105, 103, 104], 5), ([110, 101, 118, 101, 114], 6), ([115, 105, 103, 104, 116], 7)]
theorem pk_hab : habP.map (fun q => (pkF q.1, q.2)) = [(512802514792, 5), (474148660594, 6), (495689623668, 7)] := by decide +kernel
theorem ok_hab : ∀ q ∈ habP, okBw q.1 = true := by decide +kernel
def meaP : List (List Int32 × Int32) := [([103, 114, 101, 101, 110], 0), ([119, 101, 116], 1), ([99, 108, 105, 109, 98], 2), ([99, 114, 111, 119, 100], 3), ([116, 117, 114, 110], 4), ([99, 111, 109, 101], 5), ([108, 105, 110, 101], 6)]
theorem pk_mea : meaP.map (fun q => (pkF q.1, q.2)) = [(444300879214, 0), (7824756, 1), (427020610914, 2), (427121669988, 3), (1953854062, 4), (1668246885, 5), (1818848869, 6)] := by decide +kernel
theorem ok_mea : ∀ q ∈ meaP, okBw q.1 = true := by decide +kernel
theorem law_ix (w : List Int32) : ixF w lawW 0 = ixP w lawP := rfl
theorem mea_ix (w : List Int32) : ixF w meaW 0 = ixP w meaP := rfl
theorem hab_ix (w : List Int32) : (if ixF w habW 0 < 0 then (-1 : Int32) else 5 + ixF w habW 0) = ixP w habP := by
  unfold habW habP
  unfold ixF ixP
  by_cases h1 : w = [119, 101, 105, 103, 104]
  · rw [if_pos h1, if_pos h1]; decide
  · rw [if_neg h1, if_neg h1]
    unfold ixF ixP
    by_cases h2 : w = [110, 101, 118, 101, 114]
    · rw [if_pos h2, if_pos h2]; decide
    · rw [if_neg h2, if_neg h2]
      unfold ixF ixP
      by_cases h3 : w = [115, 105, 103, 104, 116]
      · rw [if_pos h3, if_pos h3]; decide
      · rw [if_neg h3, if_neg h3]
        unfold ixF ixP
        decide
theorem fls {B : Nat → Int32} {n : Nat} {M : Mem} {ts : List Tok} (h : RTk B n M ts) (hg : gdT B ts) : G_171 M = ixF (wdS B (hdT ts)) meaW 0 := by
  rw [mea_ix, ← h.ch hg meaP ok_mea, pk_mea]
  rfl
theorem fll {B : Nat → Int32} {n : Nat} {M : Mem} {ts : List Tok} {law : Bool} (h : RTk B n M ts) (hg : gdT B ts) : G_168 M (bif law then 1 else 0) = kdS B law (hdT ts) := by
  unfold kdS
  cases law
  · show G_168 M 0 = (if ixF (wdS B (hdT ts)) habW 0 < 0 then (-1 : Int32) else 5 + ixF (wdS B (hdT ts)) habW 0)
    unfold G_168
    rw [if_pos (show (0 : Int32) = 0 from rfl), hab_ix, ← h.ch hg habP ok_hab, pk_hab]
    rfl
  · show G_168 M 1 = ixF (wdS B (hdT ts)) lawW 0
    unfold G_168
    rw [if_neg (show ¬ (1 : Int32) = 0 by decide), law_ix, ← h.ch hg lawP ok_law, pk_law]
    rfl
/-- a number taken -/
noncomputable def tkR (s : Sg) (lo hi : Int32) : (Int32 × Nat) ⊕ Int32 := if (hdT s.1).1 ≠ 3 then .inl (1, (hdT s.1).2.1) else if (hdT s.1).2.2.2 < lo ∨ hi < (hdT s.1).2.2.2 then .inl (2, (hdT s.1).2.1) else .inr (hdT s.1).2.2.2
noncomputable def cndR (B : Nat → Int32) (C : Sg → PR) (s : Sg) (x : Int32) : PR := if x = 6 then C s else if (x = 0 ∨ x = 1 ∨ x = 5) ∧ wdS B (hdT s.1) = ifW then C (s.1.tail, s.2.1, s.2.2) else .inl s
/-- what a line's body comes to: the state, its measure, its number, from which step -/
abbrev PBd : Type := (Int32 × Nat) ⊕ (Sg × Int32 × Int32 × Nat)
noncomputable def cnR (B : Nat → Int32) (C : Sg → PR) (s : Sg) (x m nu : Int32) : PBd := match cndR B C s x with
  | .inr f => .inl f
  | .inl s2 => .inr (s2, m, nu, s.2.2.length)
noncomputable def nmR (B : Nat → Int32) (C : Sg → PR) (s : Sg) (x m : Int32) : PBd := match tkR s (if x = 2 then 1 else 0) (mostS x) with
  | .inl f => .inl f
  | .inr nu => cnR B C (s.1.tail, s.2.1, s.2.2) x m nu
noncomputable def bdR (B : Nat → Int32) (C : Sg → PR) (s : Sg) (x : Int32) : PBd := if x = 6 then cnR B C s 6 0 0 else if x = 5 then (if ixF (wdS B (hdT s.1)) meaW 0 < 0 then .inl (1, (hdT s.1).2.1) else nmR B C (s.1.tail, s.2.1, s.2.2) 5 (ixF (wdS B (hdT s.1)) meaW 0)) else nmR B C s x 0
noncomputable def enR (ls : List Lnq) (x : Int32) (r : PBd) : PLn := match r with
  | .inl f => .inr f
  | .inr q => endB q.1 ls x q.2.1 q.2.2.1 q.2.2.2
theorem cn_en {B : Nat → Int32} {C : Sg → PR} {s : Sg} {ls : List Lnq} {x m nu : Int32} : cndB B C s ls x m nu s.2.2.length = enR ls x (cnR B C s x m nu) := by
  unfold cndB cnR cndR
  by_cases h1 : x = 6
  · rw [if_pos h1, if_pos h1]
    cases C s <;> rfl
  · rw [if_neg h1, if_neg h1]
    by_cases h2 : (x = 0 ∨ x = 1 ∨ x = 5) ∧ wdS B (hdT s.1) = ifW
    · rw [if_pos h2, if_pos h2]
      cases C (s.1.tail, s.2.1, s.2.2) <;> rfl
    · rw [if_neg h2, if_neg h2]
      rfl
theorem nm_en {B : Nat → Int32} {C : Sg → PR} {s : Sg} {ls : List Lnq} {x m : Int32} (hg : (hdT s.1).1 = 3 → 0 ≤ (hdT s.1).2.2.2.toInt) : numB B C s ls x m = enR ls x (nmR B C s x m) := by
  unfold numB nmR tkR
  by_cases h1 : (hdT s.1).1 ≠ 3
  · rw [if_pos h1, if_pos h1]
    rfl
  · rw [if_neg h1, if_neg h1]
    have h0 := hg (Decidable.not_not.mp h1)
    have z0 : (0 : Int32).toInt = 0 := rfl
    have hc : (mostS x < (hdT s.1).2.2.2 ∨ (x = 2 ∧ (hdT s.1).2.2.2 < 1)) ↔ ((hdT s.1).2.2.2 < (if x = 2 then 1 else 0) ∨ mostS x < (hdT s.1).2.2.2) := by
      by_cases h2 : x = 2
      · rw [if_pos h2]
        exact ⟨fun q => q.elim Or.inr (fun q => Or.inl q.2), fun q => q.elim (fun q => Or.inr ⟨h2, q⟩) Or.inl⟩
      · rw [if_neg h2]
        refine ⟨fun q => q.elim Or.inr (fun q => absurd q.1 h2), fun q => q.elim (fun q => ?_) Or.inl⟩
        rw [Int32.lt_iff_toInt_lt] at q
        omega
    by_cases h2 : mostS x < (hdT s.1).2.2.2 ∨ (x = 2 ∧ (hdT s.1).2.2.2 < 1)
    · rw [if_pos h2, if_pos (hc.mp h2)]
      rfl
    · rw [if_neg h2, if_neg (fun q => h2 (hc.mpr q))]
      exact cn_en (s := (s.1.tail, s.2.1, s.2.2))
theorem bd_en {B : Nat → Int32} {C : Sg → PR} {s : Sg} {ls : List Lnq} {x : Int32} (hw : wfT s.1) (hg : gdT B s.1) : bodB B C s ls x = enR ls x (bdR B C s x) := by
  obtain ⟨r, hr⟩ := hw.ne
  unfold bodB bdR
  by_cases h1 : x = 6
  · rw [if_pos h1, if_pos h1, h1]
    exact cn_en
  · rw [if_neg h1, if_neg h1]
    by_cases h2 : x = 5
    · rw [if_pos h2, if_pos h2, h2]
      by_cases h3 : ixF (wdS B (hdT s.1)) meaW 0 < 0
      · rw [if_pos h3, if_pos h3]
        rfl
      · rw [if_neg h3, if_neg h3]
        refine nm_en (fun q => ?_)
        have hq : (hdT s.1.tail) ∈ s.1.tail := by
          cases ht : s.1.tail with
          | nil =>
            rw [ht] at q
            exact absurd q (show ¬ (0 : Int32) = 3 by decide)
          | cons a l => exact List.mem_cons_self
        exact (hg _ (List.mem_of_mem_tail hq)).2 q
    · rw [if_neg h2, if_neg h2]
      refine nm_en (fun q => (hg (hdT s.1) ?_).2 q)
      rw [hr]
      exact List.mem_cons_self
/-! THE REFERENCE'S line: the state, and how it moves -/
def fQl : List (Nat × Nat) := (633, 32) :: fQ
def wQl : List Nat := [639, 640, 641, 642, 643, 644] ++ wQ
def FLq (M M' : Mem) (v : Option Value) (f : Int32 × Nat) : Prop := v = some (.int 0) ∧ SQ M' ∧ FB fQl wQl M M' ∧ zI M' 633 26 = f.1 ∧ (zI M' 633 27).toInt = (f.2 : Int)
/-- the lines read so far -/
def LQ (M : Mem) (ls : List Lnq) : Prop := (rN M 639 7).toInt = (ls.length : Int) ∧ ls.length ≤ 16 ∧ ∀ j l, ls[j]? = some l → rN M 640 (112 + j) = l.1 ∧ rN M 641 (112 + j) = l.2.1 ∧ rN M 642 (112 + j) = l.2.2.1 ∧ (rN M 643 (112 + j)).toInt = (l.2.2.2.1 : Int) ∧ (rN M 644 (112 + j)).toInt = (l.2.2.2.2 : Int)
section RLS
variable {e n : Nat} {M M1 M' : Mem} {v : Option Value} {B : Nat → Int32} {s : Sg} {ls : List Lnq} {F : List (Nat × Nat)} {W : List Nat}
theorem FB.ql (h : FB fQ wQ M M') : FB fQl wQl M M' := h.more (fun q hq => List.mem_cons_of_mem _ hq) (fun q hq => List.mem_append_right _ hq)
theorem FLT.ql {f : Int32 × Nat} (h : FLT M M' v f) : FLq M M' v f := ⟨h.1, h.2.1, h.2.2.1.ql, h.2.2.2⟩
theorem FLq.pre {f : Int32 × Nat} (h : FB fQl wQl M M1) (h2 : FLq M1 M' v f) : FLq M M' v f := ⟨h2.1, h2.2.1, h.trans h2.2.2.1, h2.2.2.2⟩
theorem R0.frm (h : R0 B n M s) (hS : SQ M') (hF : FB F W M M') (f : ∀ k ∈ [3, 4, 19, 21, 22, 23, 25, 26, 31], (633, k) ∉ F) (w : ∀ b ∈ [634, 645, 646, 647], b ∉ W) : R0 B n M' s := by
  obtain ⟨a1, a2, a3, a4, a5, a6, a7, a8, a9⟩ := h
  exact ⟨hS, (hF.bR (w _ (by simp))).trans a2, by rw [hF.fi (f _ (by simp))]; exact a3, a4.frm hF (f _ (by simp)) (f _ (by simp)) (f _ (by simp)) (f _ (by simp)) (f _ (by simp)), a5, a6, by rw [hF.fi (f _ (by simp))]; exact a7, a8.frm hF (f _ (by simp)) (w _ (by simp)) (w _ (by simp)) (w _ (by simp)), by rw [hF.fi (f _ (by simp))]; exact a9⟩
theorem R0.next (hn2 : n ≤ 440) (h : R0 B n M s) (h0 : (hdT s.1).1 ≠ 0) (h1 : (hdT s.1).1 ≠ 1) (H : Ev none e 162 0 [some (.ref 633), none, none, none] [] M v M' 0 0) : v = none ∧ FB fQ wQ M M' ∧ R0 B n M' (s.1.tail, s.2.1, s.2.2) := by
  obtain ⟨a1, a2, a3, a4, a5, a6, a7, a8, a11⟩ := h
  obtain ⟨r, hr⟩ := a5.ne
  have h4 := a4
  rw [hr] at h4
  obtain ⟨b1, b2⟩ := h4
  rcases b2 with ⟨b2, _⟩ | ⟨b2, _⟩ | ⟨_, _, b3, b4, b5⟩
  · exact absurd b2 h0
  · exact absurd b2 h1
  obtain ⟨g1, g2, g3, g4⟩ := nx_all hn2 (n - (hdT s.1).2.2.1) _ M (Nat.le_refl _) b3 a1 a3 b4 H
  have ht : s.1.tail = tlS (bR M) n (hdT s.1).2.2.1 := by
    rw [hr, a2]
    exact b5
  have hb : bR M' = bR M := g3.bR (by decide)
  refine ⟨g1, g3.more (by decide) (fun q hq => by cases hq), g2, hb.trans a2, by rw [g3.fi (by decide)]; exact a3, ?_, a5.tl h0 h1, fun t hm => a6 t (List.mem_of_mem_tail hm), by rw [g3.fi (by decide)]; exact a7, a8.frm g3 (by decide) List.not_mem_nil List.not_mem_nil List.not_mem_nil, by rw [g3.fi (by decide)]; exact a11⟩
  show RTk B n M' s.1.tail
  rw [ht, ← a2]
  exact g4
theorem R0.bad {k : Int32} (h : R0 B n M s) (H : Ev none e 163 0 [some (.ref 633), some (.int k)] [] M v M' 0 0) : FLT M M' v (k, (hdT s.1).2.1) := by
  obtain ⟨a1, a2, a3, a4, a5, a6, a7, a8, a11⟩ := h
  obtain ⟨r, hr⟩ := a5.ne
  rw [hr] at a4
  obtain ⟨g1, g2⟩ := g_163 a1 H
  have S1 : SQ M' := by
    rw [g2]
    exact X_163_sx a1
  unfold X_163 at g2
  subst g2
  refine ⟨?_, S1, (FB.wF (by decide)).trans (FB.wF (by decide)), ?_, ?_⟩
  · rw [g1]
    rfl
  · rw [fI_wF_ne (by decide), fI_wF_eq a1.1 qa_633 qi_61_26]
  · rw [fI_wF_eq a1.kf.1 qa_633 qi_61_27]
    exact a4.1
/-- the sign that ends a line -/
theorem sgn_ok (hn2 : n ≤ 440) (h : R0 B n M s) (H : Ev none e 166 0 [some (.ref 633), some (.int 59)] [] M v M' 0 0) : ((hdT s.1).1 ≠ 59 ∧ FLT M M' v (1, (hdT s.1).2.1)) ∨ ((hdT s.1).1 = 59 ∧ v = some (.int 1) ∧ FB fQ wQ M M' ∧ R0 B n M' (s.1.tail, s.2.1, s.2.2)) := by
  rcases h.2.2.2.1.sign (c := 59) (Or.inl rfl) with ⟨q1, q2, _⟩ | ⟨q1, q2⟩
  · rcases snq_0 h.1 H with ⟨g, _⟩ | ⟨_, e1, v1, M1, he, H1, H⟩
    · rw [q1] at g
      exact absurd g (by decide)
    · obtain ⟨rfl, f1, r1⟩ := h.next hn2 (by rw [q2]; decide) (by rw [q2]; decide) H1
      obtain ⟨rfl, rfl⟩ := snq_18 r1.1 H
      exact Or.inr ⟨q2, rfl, f1, r1⟩
  · rcases snq_0 h.1 H with ⟨_, e1, v1, M1, he, H1, H⟩ | ⟨g, _⟩
    · obtain ⟨rfl, f1⟩ := h.bad H1
      obtain ⟨rfl, rfl⟩ := snq_13 f1.1 H
      exact Or.inl ⟨q2, rfl, f1⟩
    · exact absurd q1 g
theorem g140 {x lo hi : Int32} : G_140 M x lo hi = 0 ↔ (x < lo ∨ hi < x) := by
  unfold G_140
  by_cases h1 : x < lo
  · rw [if_pos h1]
    exact ⟨fun _ => Or.inl h1, fun _ => rfl⟩
  · rw [if_neg h1]
    by_cases h2 : hi < x
    · rw [if_pos h2]
      exact ⟨fun _ => Or.inr h2, fun _ => rfl⟩
    · rw [if_neg h2]
      exact ⟨fun q => absurd q (by decide), fun q => q.elim (fun q => absurd q h1) (fun q => absurd q h2)⟩
/-- a number -/
theorem tks_ok {lo hi : Int32} (hn2 : n ≤ 440) (h : R0 B n M s) (H : Ev none e 167 0 [some (.ref 633), some (.int lo), some (.int hi)] [] M v M' 0 0) : match tkR s lo hi with
    | .inl f => FLT M M' v f
    | .inr nu => v = some (.int 1) ∧ FB fQl wQ M M' ∧ R0 B n M' (s.1.tail, s.2.1, s.2.2) ∧ zI M' 633 32 = nu := by
  unfold tkR
  rcases h.2.2.2.1.num with ⟨q1, q2, q3⟩ | ⟨q1, q2⟩
  · rw [if_neg (fun x => x q2)]
    rcases tkq_0 h.1 H with ⟨_, g, e1, v1, M1, he, H1, H⟩ | ⟨_, g, e1, v1, M1, he, H1, H⟩ | ⟨g, _⟩
    · rw [q3] at g
      rw [if_pos (g140.mp g)]
      obtain ⟨rfl, f1⟩ := h.bad H1
      obtain ⟨rfl, rfl⟩ := tkq_31 f1.1 H
      exact ⟨rfl, f1⟩
    · rw [q3] at g H1
      rw [if_neg (fun x => g (g140.mpr x))]
      have F1 : FB [(633, 32)] [] M (wF M 633 32 (hdT s.1).2.2.2) := FB.wF (by simp)
      have R1 : R0 B n (wF M 633 32 (hdT s.1).2.2.2) s := h.frm h.1.kf F1 (by decide) (by simp)
      obtain ⟨rfl, f1, r1⟩ := R1.next hn2 (by rw [q2]; decide) (by rw [q2]; decide) H1
      obtain ⟨rfl, rfl⟩ := tkq_44 r1.1 H
      refine ⟨rfl, (F1.more (fun q hq => ?_) (fun q hq => by cases hq)).trans (f1.more (fun q hq => List.mem_cons_of_mem _ hq) (fun _ hq => hq)), r1, ?_⟩
      · rw [List.mem_singleton] at hq
        rw [hq]
        exact List.mem_cons_self
      · rw [f1.fi (by decide), fI_wF_eq h.1.1 qa_633 qi_61_32]
    · exact absurd q1 g
  · rw [if_pos q2]
    rcases tkq_0 h.1 H with ⟨g, _⟩ | ⟨g, _⟩ | ⟨_, e1, v1, M1, he, H1, H⟩
    · exact absurd g q1
    · exact absurd g q1
    · obtain ⟨rfl, f1⟩ := h.bad H1
      obtain ⟨rfl, rfl⟩ := tkq_13 f1.1 H
      exact ⟨rfl, f1⟩
/-- writes at the line begun keep the lines before -/
theorem LQ.frm (h : LQ M ls) (hF : FB F W M M') (w : ∀ b ∈ [639, 640, 641, 642, 643, 644], b ∉ W) : LQ M' ls := by
  refine ⟨by rw [hF.rn (w _ (by simp))]; exact h.1, h.2.1, fun j l hj => ?_⟩
  rw [hF.rn (w _ (by simp)), hF.rn (w _ (by simp)), hF.rn (w _ (by simp)), hF.rn (w _ (by simp)), hF.rn (w _ (by simp))]
  exact h.2.2 j l hj
theorem LQ.wr {b : Nat} {x : Int32} (h : LQ M ls) (hb : b ≠ 639) : LQ (wI M b (112 + ls.length) x) ls := by
  have g : ∀ c j, j < ls.length → rN (wI M b (112 + ls.length) x) c (112 + j) = rN M c (112 + j) := fun c j hj => rN_wI_ne (fun q => by omega)
  refine ⟨by rw [rN_wI_ne (fun q => hb q.1.symm)]; exact h.1, h.2.1, fun j l hj => ?_⟩
  have hlt : j < ls.length := by
    rcases Nat.lt_or_ge j ls.length with q | q
    · exact q
    · rw [List.getElem?_eq_none q] at hj
      cases hj
  rw [g _ j hlt, g _ j hlt, g _ j hlt, g _ j hlt, g _ j hlt]
  exact h.2.2 j l hj
/-- the line begun -/
def ER (M : Mem) (i : Nat) (x m nu : Int32) (fr : Nat) : Prop := rN M 640 i = x ∧ rN M 641 i = m ∧ rN M 642 i = nu ∧ (rN M 643 i).toInt = (fr : Int)
theorem ER.frm {i : Nat} {x m nu : Int32} {fr : Nat} (h : ER M i x m nu fr) (hF : FB F W M M') (w : ∀ b ∈ [640, 641, 642, 643], b ∉ W) : ER M' i x m nu fr := by
  unfold ER
  rw [hF.rn (w _ (by simp)), hF.rn (w _ (by simp)), hF.rn (w _ (by simp)), hF.rn (w _ (by simp))]
  exact h
theorem r_len (hS : SQ M) : (zrw M 640).length = 128 ∧ (zrw M 641).length = 128 ∧ (zrw M 642).length = 128 ∧ (zrw M 643).length = 128 ∧ (zrw M 644).length = 128 := ⟨(hS.1.row qa_640 qw_68).2, (hS.1.row qa_641 qw_69).2, (hS.1.row qa_642 qw_70).2, (hS.1.row qa_643 qw_71).2, (hS.1.row qa_644 qw_72).2⟩
end RLS
