/-! THE CLASS'S READER: pieces (made by gcl.py) -/
noncomputable def G_126 (M : Mem) (x : Int32) (y : Int32) (z : Int32) : Int32 := if x < y then 0 else (if z < x then 0 else 1)
theorem g_126 {e : Nat} {M M' : Mem} {v : Option Value} {x y z : Int32} (hS : SQ M) (H : Ev none e 126 0 [some (.int x), some (.int y), some (.int z)] [] M v M' 0 0) : v = some (.int (G_126 M x y z)) ∧ M' = M := by
  unfold G_126
  have H : Ev none e 126 (if x < y then 14 else 5) [some (.int x), some (.int y), some (.int z)] [] M v M' 0 0 := Ev.back 3 (fun n => rfl) H
  by_cases h1 : x < y
  · rw [if_pos h1] at H
    have H : Ev none e 126 15 [some (.int x), some (.int y), some (.int z)] [.int 0] M v M' 0 0 := Ev.back 1 (fun n => rfl) H
    obtain ⟨p1, p2⟩ := Ev.retz rfl rfl H
    exact ⟨by rw [if_pos h1]; exact p1, p2⟩
  · rw [if_neg h1] at H
    have H : Ev none e 126 (if z < x then 14 else 10) [some (.int x), some (.int y), some (.int z)] [] M v M' 0 0 := Ev.back 3 (fun n => rfl) H
    by_cases h2 : z < x
    · rw [if_pos h2] at H
      have H : Ev none e 126 15 [some (.int x), some (.int y), some (.int z)] [.int 0] M v M' 0 0 := Ev.back 1 (fun n => rfl) H
      obtain ⟨p1, p2⟩ := Ev.retz rfl rfl H
      exact ⟨by rw [if_neg h1, if_pos h2]; exact p1, p2⟩
    · rw [if_neg h2] at H
      have H : Ev none e 126 15 [some (.int x), some (.int y), some (.int z)] [.int 1] M v M' 0 0 := Ev.back 2 (fun n => rfl) H
      obtain ⟨p1, p2⟩ := Ev.retz rfl rfl H
      exact ⟨by rw [if_neg h1, if_neg h2]; exact p1, p2⟩
noncomputable def G_30 (M : Mem) (k : Int32) : Int32 := if (rI M 2 k) = 59 then rI M 2 k else (if (rI M 2 k) = 40 then rI M 2 k else (if (rI M 2 k) = 41 then rI M 2 k else (if (rI M 2 k) = 60 then rI M 2 k else (if (rI M 2 k) = 61 then rI M 2 k else (if (rI M 2 k) = 62 then rI M 2 k else 1)))))
theorem g_30 {e : Nat} {M M' : Mem} {v : Option Value} {k : Int32} (hS : SQ M) (H : Ev none e 30 0 [some (.ref 3), some (.int k), none, none] [] M v M' 0 0) : v = some (.int (G_30 M k)) ∧ M' = M := by
  unfold G_30
  have H : Ev none e 30 1 [some (.ref 3), some (.int k), none, none] [.ref 3] M v M' 0 0 := Ev.back 1 (fun n => rfl) H
  have H : Ev none e 30 4 [some (.ref 3), some (.int k), none, none] [.ref 1] M v M' 0 0 := Ev.back 1 (gs_3 rfl rfl (gf_u hS.1 qa_3 qr_3_0 qu_1 rfl)) H
  have H : Ev none e 30 7 [some (.ref 3), some (.int k), none, none] [.ref 2] M v M' 0 0 := Ev.back 1 (gs_3 rfl rfl (gf_u hS.1 qa_1 qr_1_0 qu_2 rfl)) H
  have H : Ev none e 30 8 [some (.ref 3), some (.int k), none, none] [.int k, .ref 2] M v M' 0 0 := Ev.back 1 (fun n => rfl) H
  obtain ⟨b1, H⟩ := Ev.ial rfl rfl hS.1 qa_2 qw_2 H
  have H : Ev none e 30 9 [some (.ref 3), some (.int k), none, none] [.int (rI M 2 k)] M v M' 0 0 := H
  have H : Ev none e 30 (if (rI M 2 k) = 59 then 46 else 16) [some (.ref 3), some (.int k), some (.int (rI M 2 k)), none] [] M v M' 0 0 := Ev.back 4 (fun n => rfl) H
  by_cases h2 : (rI M 2 k) = 59
  · rw [if_pos h2] at H
    have H : Ev none e 30 (if 1 = 0 then 60 else 56) [some (.ref 3), some (.int k), some (.int (rI M 2 k)), some (.int 1)] [] M v M' 0 0 := Ev.back 5 (fun n => rfl) H
    rw [if_neg (by decide)] at H
    have H : Ev none e 30 61 [some (.ref 3), some (.int k), some (.int (rI M 2 k)), some (.int 1)] [.int (rI M 2 k)] M v M' 0 0 := Ev.back 2 (fun n => rfl) H
    obtain ⟨p1, p2⟩ := Ev.retz rfl rfl H
    exact ⟨by rw [if_pos h2]; exact p1, p2⟩
  · rw [if_neg h2] at H
    have H : Ev none e 30 (if (rI M 2 k) = 40 then 46 else 22) [some (.ref 3), some (.int k), some (.int (rI M 2 k)), none] [] M v M' 0 0 := Ev.back 3 (fun n => rfl) H
    by_cases h3 : (rI M 2 k) = 40
    · rw [if_pos h3] at H
      have H : Ev none e 30 (if 1 = 0 then 60 else 56) [some (.ref 3), some (.int k), some (.int (rI M 2 k)), some (.int 1)] [] M v M' 0 0 := Ev.back 5 (fun n => rfl) H
      rw [if_neg (by decide)] at H
      have H : Ev none e 30 61 [some (.ref 3), some (.int k), some (.int (rI M 2 k)), some (.int 1)] [.int (rI M 2 k)] M v M' 0 0 := Ev.back 2 (fun n => rfl) H
      obtain ⟨p1, p2⟩ := Ev.retz rfl rfl H
      exact ⟨by rw [if_neg h2, if_pos h3]; exact p1, p2⟩
    · rw [if_neg h3] at H
      have H : Ev none e 30 (if (rI M 2 k) = 41 then 46 else 28) [some (.ref 3), some (.int k), some (.int (rI M 2 k)), none] [] M v M' 0 0 := Ev.back 3 (fun n => rfl) H
      by_cases h4 : (rI M 2 k) = 41
      · rw [if_pos h4] at H
        have H : Ev none e 30 (if 1 = 0 then 60 else 56) [some (.ref 3), some (.int k), some (.int (rI M 2 k)), some (.int 1)] [] M v M' 0 0 := Ev.back 5 (fun n => rfl) H
        rw [if_neg (by decide)] at H
        have H : Ev none e 30 61 [some (.ref 3), some (.int k), some (.int (rI M 2 k)), some (.int 1)] [.int (rI M 2 k)] M v M' 0 0 := Ev.back 2 (fun n => rfl) H
        obtain ⟨p1, p2⟩ := Ev.retz rfl rfl H
        exact ⟨by rw [if_neg h2, if_neg h3, if_pos h4]; exact p1, p2⟩
      · rw [if_neg h4] at H
        have H : Ev none e 30 (if (rI M 2 k) = 60 then 46 else 34) [some (.ref 3), some (.int k), some (.int (rI M 2 k)), none] [] M v M' 0 0 := Ev.back 3 (fun n => rfl) H
        by_cases h5 : (rI M 2 k) = 60
        · rw [if_pos h5] at H
          have H : Ev none e 30 (if 1 = 0 then 60 else 56) [some (.ref 3), some (.int k), some (.int (rI M 2 k)), some (.int 1)] [] M v M' 0 0 := Ev.back 5 (fun n => rfl) H
          rw [if_neg (by decide)] at H
          have H : Ev none e 30 61 [some (.ref 3), some (.int k), some (.int (rI M 2 k)), some (.int 1)] [.int (rI M 2 k)] M v M' 0 0 := Ev.back 2 (fun n => rfl) H
          obtain ⟨p1, p2⟩ := Ev.retz rfl rfl H
          exact ⟨by rw [if_neg h2, if_neg h3, if_neg h4, if_pos h5]; exact p1, p2⟩
        · rw [if_neg h5] at H
          have H : Ev none e 30 (if (rI M 2 k) = 61 then 46 else 40) [some (.ref 3), some (.int k), some (.int (rI M 2 k)), none] [] M v M' 0 0 := Ev.back 3 (fun n => rfl) H
          by_cases h6 : (rI M 2 k) = 61
          · rw [if_pos h6] at H
            have H : Ev none e 30 (if 1 = 0 then 60 else 56) [some (.ref 3), some (.int k), some (.int (rI M 2 k)), some (.int 1)] [] M v M' 0 0 := Ev.back 5 (fun n => rfl) H
            rw [if_neg (by decide)] at H
            have H : Ev none e 30 61 [some (.ref 3), some (.int k), some (.int (rI M 2 k)), some (.int 1)] [.int (rI M 2 k)] M v M' 0 0 := Ev.back 2 (fun n => rfl) H
            obtain ⟨p1, p2⟩ := Ev.retz rfl rfl H
            exact ⟨by rw [if_neg h2, if_neg h3, if_neg h4, if_neg h5, if_pos h6]; exact p1, p2⟩
          · rw [if_neg h6] at H
            have H : Ev none e 30 (if (rI M 2 k) = 62 then 46 else 50) [some (.ref 3), some (.int k), some (.int (rI M 2 k)), none] [] M v M' 0 0 := Ev.back 3 (fun n => rfl) H
            by_cases h7 : (rI M 2 k) = 62
            · rw [if_pos h7] at H
              have H : Ev none e 30 (if 1 = 0 then 60 else 56) [some (.ref 3), some (.int k), some (.int (rI M 2 k)), some (.int 1)] [] M v M' 0 0 := Ev.back 5 (fun n => rfl) H
              rw [if_neg (by decide)] at H
              have H : Ev none e 30 61 [some (.ref 3), some (.int k), some (.int (rI M 2 k)), some (.int 1)] [.int (rI M 2 k)] M v M' 0 0 := Ev.back 2 (fun n => rfl) H
              obtain ⟨p1, p2⟩ := Ev.retz rfl rfl H
              exact ⟨by rw [if_neg h2, if_neg h3, if_neg h4, if_neg h5, if_neg h6, if_pos h7]; exact p1, p2⟩
            · rw [if_neg h7] at H
              have H : Ev none e 30 (if 0 = 0 then 60 else 56) [some (.ref 3), some (.int k), some (.int (rI M 2 k)), some (.int 0)] [] M v M' 0 0 := Ev.back 4 (fun n => rfl) H
              rw [if_pos (by decide)] at H
              have H : Ev none e 30 61 [some (.ref 3), some (.int k), some (.int (rI M 2 k)), some (.int 0)] [.int 1] M v M' 0 0 := Ev.back 1 (fun n => rfl) H
              obtain ⟨p1, p2⟩ := Ev.retz rfl rfl H
              exact ⟨by rw [if_neg h2, if_neg h3, if_neg h4, if_neg h5, if_neg h6, if_neg h7]; exact p1, p2⟩
theorem ta_0 {e : Nat} {M M' : Mem} {v : Option Value} {aq : Int32} (hS : SQ M) (H : Ev none e 29 0 [some (.ref 3), some (.int aq), none, none, none, none, none] [] M v M' 0 0) : Ev none e 29 10 [some (.ref 3), some (.int aq), some (.int 0), some (.int 0), some (.int 0), some (.int aq), none] [] M v M' 0 0 := by
  have H : Ev none e 29 10 [some (.ref 3), some (.int aq), some (.int 0), some (.int 0), some (.int 0), some (.int aq), none] [] M v M' 0 0 := Ev.back 8 (fun n => rfl) H
  have HF := H
  exact HF
theorem ta_10 {e : Nat} {M M' : Mem} {v : Option Value} {aq L D V z : Int32} {c0 : Option Value} (hS : SQ M) (H : Ev none e 29 10 [some (.ref 3), some (.int aq), some (.int L), some (.int D), some (.int V), some (.int z), c0] [] M v M' 0 0) : ((zI M 1 1) ≤ z ∧ Ev none e 29 96 [some (.ref 3), some (.int aq), some (.int L), some (.int D), some (.int V), some (.int z), c0] [] M v M' 0 0) ∨ (¬ ((zI M 1 1) ≤ z) ∧ (G_126 M (rI M 2 z) 97 122) = 0 ∧ (G_126 M (rI M 2 z) 48 57) = 0 ∧ Ev none e 29 96 [some (.ref 3), some (.int aq), some (.int L), some (.int D), some (.int V), some (.int z), some (.int (rI M 2 z))] [] M v M' 0 0) ∨ (¬ ((zI M 1 1) ≤ z) ∧ (G_126 M (rI M 2 z) 97 122) = 0 ∧ ¬ ((G_126 M (rI M 2 z) 48 57) = 0) ∧ 3 < (D + 1) ∧ Ev none e 29 10 [some (.ref 3), some (.int aq), some (.int L), some (.int (D + 1)), some (.int V), some (.int (z + 1)), some (.int (rI M 2 z))] [] M v M' 0 0) ∨ (¬ ((zI M 1 1) ≤ z) ∧ (G_126 M (rI M 2 z) 97 122) = 0 ∧ ¬ ((G_126 M (rI M 2 z) 48 57) = 0) ∧ ¬ (3 < (D + 1)) ∧ Ev none e 29 10 [some (.ref 3), some (.int aq), some (.int L), some (.int (D + 1)), some (.int (((10 * V) + (rI M 2 z)) - 48)), some (.int (z + 1)), some (.int (rI M 2 z))] [] M v M' 0 0) ∨ (¬ ((zI M 1 1) ≤ z) ∧ ¬ ((G_126 M (rI M 2 z) 97 122) = 0) ∧ Ev none e 29 10 [some (.ref 3), some (.int aq), some (.int (L + 1)), some (.int D), some (.int V), some (.int (z + 1)), some (.int (rI M 2 z))] [] M v M' 0 0) := by
  have H : Ev none e 29 13 [some (.ref 3), some (.int aq), some (.int L), some (.int D), some (.int V), some (.int z), c0] [.ref 3, .int z] M v M' 0 0 := Ev.back 2 (fun n => rfl) H
  have H : Ev none e 29 16 [some (.ref 3), some (.int aq), some (.int L), some (.int D), some (.int V), some (.int z), c0] [.ref 1, .int z] M v M' 0 0 := Ev.back 1 (gs_3 rfl rfl (gf_u hS.1 qa_3 qr_3_0 qu_1 rfl)) H
  have H : Ev none e 29 19 [some (.ref 3), some (.int aq), some (.int L), some (.int D), some (.int V), some (.int z), c0] [.int (zI M 1 1), .int z] M v M' 0 0 := Ev.back 1 (gs_3 rfl rfl (gf_i hS.1 qa_1 qi_1_1 rfl)) H
  have H : Ev none e 29 (if (zI M 1 1) ≤ z then 96 else 22) [some (.ref 3), some (.int aq), some (.int L), some (.int D), some (.int V), some (.int z), c0] [] M v M' 0 0 := Ev.back 1 (fun n => rfl) H
  by_cases h1 : (zI M 1 1) ≤ z
  · rw [if_pos h1] at H
    have HF := H
    exact Or.inl ⟨h1, HF⟩
  · rw [if_neg h1] at H
    have H : Ev none e 29 23 [some (.ref 3), some (.int aq), some (.int L), some (.int D), some (.int V), some (.int z), c0] [.ref 3] M v M' 0 0 := Ev.back 1 (fun n => rfl) H
    have H : Ev none e 29 26 [some (.ref 3), some (.int aq), some (.int L), some (.int D), some (.int V), some (.int z), c0] [.ref 1] M v M' 0 0 := Ev.back 1 (gs_3 rfl rfl (gf_u hS.1 qa_3 qr_3_0 qu_1 rfl)) H
    have H : Ev none e 29 29 [some (.ref 3), some (.int aq), some (.int L), some (.int D), some (.int V), some (.int z), c0] [.ref 2] M v M' 0 0 := Ev.back 1 (gs_3 rfl rfl (gf_u hS.1 qa_1 qr_1_0 qu_2 rfl)) H
    have H : Ev none e 29 31 [some (.ref 3), some (.int aq), some (.int L), some (.int D), some (.int V), some (.int z), c0] [.int z, .ref 2] M v M' 0 0 := Ev.back 1 (fun n => rfl) H
    obtain ⟨b2, H⟩ := Ev.ial rfl rfl hS.1 qa_2 qw_2 H
    have H : Ev none e 29 32 [some (.ref 3), some (.int aq), some (.int L), some (.int D), some (.int V), some (.int z), c0] [.int (rI M 2 z)] M v M' 0 0 := H
    have H : Ev none e 29 40 [some (.ref 3), some (.int aq), some (.int L), some (.int D), some (.int V), some (.int z), some (.int (rI M 2 z))] [.int 122, .int 97, .int (rI M 2 z)] M v M' 0 0 := Ev.back 4 (fun n => rfl) H
    obtain ⟨e1, rfl⟩ := Ev.dpos rfl rfl H
    obtain ⟨vK3, MK3, K3, H⟩ := Ev.callb (fun n => rfl) H
    obtain ⟨pK3, qK3⟩ := g_126 hS K3
    rw [pK3, qK3] at H
    have H : Ev none (e1 + 1) 29 43 [some (.ref 3), some (.int aq), some (.int L), some (.int D), some (.int V), some (.int z), some (.int (rI M 2 z))] [.int (G_126 M (rI M 2 z) 97 122)] M v M' 0 0 := H
    have H : Ev none (e1 + 1) 29 (if (G_126 M (rI M 2 z) 97 122) = 0 then 52 else 46) [some (.ref 3), some (.int aq), some (.int L), some (.int D), some (.int V), some (.int z), some (.int (rI M 2 z))] [] M v M' 0 0 := Ev.back 1 (fun n => rfl) H
    by_cases h4 : (G_126 M (rI M 2 z) 97 122) = 0
    · rw [if_pos h4] at H
      have H : Ev none (e1 + 1) 29 58 [some (.ref 3), some (.int aq), some (.int L), some (.int D), some (.int V), some (.int z), some (.int (rI M 2 z))] [.int 57, .int 48, .int (rI M 2 z)] M v M' 0 0 := Ev.back 3 (fun n => rfl) H
      obtain ⟨vK5, MK5, K5, H⟩ := Ev.callb (fun n => rfl) H
      obtain ⟨pK5, qK5⟩ := g_126 hS K5
      rw [pK5, qK5] at H
      have H : Ev none (e1 + 1) 29 61 [some (.ref 3), some (.int aq), some (.int L), some (.int D), some (.int V), some (.int z), some (.int (rI M 2 z))] [.int (G_126 M (rI M 2 z) 48 57)] M v M' 0 0 := H
      have H : Ev none (e1 + 1) 29 (if (G_126 M (rI M 2 z) 48 57) = 0 then 96 else 64) [some (.ref 3), some (.int aq), some (.int L), some (.int D), some (.int V), some (.int z), some (.int (rI M 2 z))] [] M v M' 0 0 := Ev.back 1 (fun n => rfl) H
      by_cases h6 : (G_126 M (rI M 2 z) 48 57) = 0
      · rw [if_pos h6] at H
        have HF := H
        exact Or.inr (Or.inl ⟨h1, h4, h6, HF⟩)
      · rw [if_neg h6] at H
        have H : Ev none (e1 + 1) 29 (if 3 < (D + 1) then 86 else 72) [some (.ref 3), some (.int aq), some (.int L), some (.int (D + 1)), some (.int V), some (.int z), some (.int (rI M 2 z))] [] M v M' 0 0 := Ev.back 4 (fun n => rfl) H
        by_cases h7 : 3 < (D + 1)
        · rw [if_pos h7] at H
          have H : Ev none (e1 + 1) 29 10 [some (.ref 3), some (.int aq), some (.int L), some (.int (D + 1)), some (.int V), some (.int (z + 1)), some (.int (rI M 2 z))] [] M v M' 0 0 := Ev.back 4 (fun n => rfl) H
          have HF := H
          exact Or.inr (Or.inr (Or.inl ⟨h1, h4, h6, h7, HF⟩))
        · rw [if_neg h7] at H
          have H : Ev none (e1 + 1) 29 10 [some (.ref 3), some (.int aq), some (.int L), some (.int (D + 1)), some (.int (((10 * V) + (rI M 2 z)) - 48)), some (.int (z + 1)), some (.int (rI M 2 z))] [] M v M' 0 0 := Ev.back 11 (fun n => rfl) H
          have HF := H
          exact Or.inr (Or.inr (Or.inr (Or.inl ⟨h1, h4, h6, h7, HF⟩)))
    · rw [if_neg h4] at H
      have H : Ev none (e1 + 1) 29 10 [some (.ref 3), some (.int aq), some (.int (L + 1)), some (.int D), some (.int V), some (.int (z + 1)), some (.int (rI M 2 z))] [] M v M' 0 0 := Ev.back 4 (fun n => rfl) H
      have HF := H
      exact Or.inr (Or.inr (Or.inr (Or.inr (⟨h1, h4, HF⟩))))
theorem ta_96 {e : Nat} {M M' : Mem} {v : Option Value} {aq L D V z : Int32} {c0 : Option Value} (hS : SQ M) (H : Ev none e 29 96 [some (.ref 3), some (.int aq), some (.int L), some (.int D), some (.int V), some (.int z), c0] [] M v M' 0 0) : (z = aq ∧ (0 ≤ (zI M 3 5).toInt ∧ (zI M 3 5).toInt < 401) ∧ (0 ≤ (zI M 3 5).toInt ∧ (zI M 3 5).toInt < 401) ∧ (0 ≤ (zI M 3 5).toInt ∧ (zI M 3 5).toInt < 401) ∧ (0 ≤ (zI M 3 5).toInt ∧ (zI M 3 5).toInt < 401) ∧ v = some (.int (aq + 1)) ∧ M' = (wI (wI (wI (wI M 4 ((zI M 3 5).toNatClampNeg) (G_30 M aq)) 5 ((zI M 3 5).toNatClampNeg) aq) 6 ((zI M 3 5).toNatClampNeg) (aq + 1)) 7 ((zI M 3 5).toNatClampNeg) V)) ∨ (¬ (z = aq) ∧ D = 0 ∧ 6 < L ∧ L = 0 ∧ 3 < D ∧ (0 ≤ (zI M 3 5).toInt ∧ (zI M 3 5).toInt < 401) ∧ (0 ≤ (zI M 3 5).toInt ∧ (zI M 3 5).toInt < 401) ∧ (0 ≤ (zI M 3 5).toInt ∧ (zI M 3 5).toInt < 401) ∧ (0 ≤ (zI M 3 5).toInt ∧ (zI M 3 5).toInt < 401) ∧ v = some (.int z) ∧ M' = (wI (wI (wI (wI M 4 ((zI M 3 5).toNatClampNeg) 1) 5 ((zI M 3 5).toNatClampNeg) aq) 6 ((zI M 3 5).toNatClampNeg) z) 7 ((zI M 3 5).toNatClampNeg) V)) ∨ (¬ (z = aq) ∧ D = 0 ∧ 6 < L ∧ L = 0 ∧ ¬ (3 < D) ∧ (0 ≤ (zI M 3 5).toInt ∧ (zI M 3 5).toInt < 401) ∧ (0 ≤ (zI M 3 5).toInt ∧ (zI M 3 5).toInt < 401) ∧ (0 ≤ (zI M 3 5).toInt ∧ (zI M 3 5).toInt < 401) ∧ (0 ≤ (zI M 3 5).toInt ∧ (zI M 3 5).toInt < 401) ∧ v = some (.int z) ∧ M' = (wI (wI (wI (wI M 4 ((zI M 3 5).toNatClampNeg) 3) 5 ((zI M 3 5).toNatClampNeg) aq) 6 ((zI M 3 5).toNatClampNeg) z) 7 ((zI M 3 5).toNatClampNeg) V)) ∨ (¬ (z = aq) ∧ D = 0 ∧ 6 < L ∧ ¬ (L = 0) ∧ (0 ≤ (zI M 3 5).toInt ∧ (zI M 3 5).toInt < 401) ∧ (0 ≤ (zI M 3 5).toInt ∧ (zI M 3 5).toInt < 401) ∧ (0 ≤ (zI M 3 5).toInt ∧ (zI M 3 5).toInt < 401) ∧ (0 ≤ (zI M 3 5).toInt ∧ (zI M 3 5).toInt < 401) ∧ v = some (.int z) ∧ M' = (wI (wI (wI (wI M 4 ((zI M 3 5).toNatClampNeg) 1) 5 ((zI M 3 5).toNatClampNeg) aq) 6 ((zI M 3 5).toNatClampNeg) z) 7 ((zI M 3 5).toNatClampNeg) V)) ∨ (¬ (z = aq) ∧ D = 0 ∧ ¬ (6 < L) ∧ (0 ≤ (zI M 3 5).toInt ∧ (zI M 3 5).toInt < 401) ∧ (0 ≤ (zI M 3 5).toInt ∧ (zI M 3 5).toInt < 401) ∧ (0 ≤ (zI M 3 5).toInt ∧ (zI M 3 5).toInt < 401) ∧ (0 ≤ (zI M 3 5).toInt ∧ (zI M 3 5).toInt < 401) ∧ v = some (.int z) ∧ M' = (wI (wI (wI (wI M 4 ((zI M 3 5).toNatClampNeg) 2) 5 ((zI M 3 5).toNatClampNeg) aq) 6 ((zI M 3 5).toNatClampNeg) z) 7 ((zI M 3 5).toNatClampNeg) V)) ∨ (¬ (z = aq) ∧ ¬ (D = 0) ∧ L = 0 ∧ 3 < D ∧ (0 ≤ (zI M 3 5).toInt ∧ (zI M 3 5).toInt < 401) ∧ (0 ≤ (zI M 3 5).toInt ∧ (zI M 3 5).toInt < 401) ∧ (0 ≤ (zI M 3 5).toInt ∧ (zI M 3 5).toInt < 401) ∧ (0 ≤ (zI M 3 5).toInt ∧ (zI M 3 5).toInt < 401) ∧ v = some (.int z) ∧ M' = (wI (wI (wI (wI M 4 ((zI M 3 5).toNatClampNeg) 1) 5 ((zI M 3 5).toNatClampNeg) aq) 6 ((zI M 3 5).toNatClampNeg) z) 7 ((zI M 3 5).toNatClampNeg) V)) ∨ (¬ (z = aq) ∧ ¬ (D = 0) ∧ L = 0 ∧ ¬ (3 < D) ∧ (0 ≤ (zI M 3 5).toInt ∧ (zI M 3 5).toInt < 401) ∧ (0 ≤ (zI M 3 5).toInt ∧ (zI M 3 5).toInt < 401) ∧ (0 ≤ (zI M 3 5).toInt ∧ (zI M 3 5).toInt < 401) ∧ (0 ≤ (zI M 3 5).toInt ∧ (zI M 3 5).toInt < 401) ∧ v = some (.int z) ∧ M' = (wI (wI (wI (wI M 4 ((zI M 3 5).toNatClampNeg) 3) 5 ((zI M 3 5).toNatClampNeg) aq) 6 ((zI M 3 5).toNatClampNeg) z) 7 ((zI M 3 5).toNatClampNeg) V)) ∨ (¬ (z = aq) ∧ ¬ (D = 0) ∧ ¬ (L = 0) ∧ (0 ≤ (zI M 3 5).toInt ∧ (zI M 3 5).toInt < 401) ∧ (0 ≤ (zI M 3 5).toInt ∧ (zI M 3 5).toInt < 401) ∧ (0 ≤ (zI M 3 5).toInt ∧ (zI M 3 5).toInt < 401) ∧ (0 ≤ (zI M 3 5).toInt ∧ (zI M 3 5).toInt < 401) ∧ v = some (.int z) ∧ M' = (wI (wI (wI (wI M 4 ((zI M 3 5).toNatClampNeg) 1) 5 ((zI M 3 5).toNatClampNeg) aq) 6 ((zI M 3 5).toNatClampNeg) z) 7 ((zI M 3 5).toNatClampNeg) V)) := by
  have H : Ev none e 29 (if z = aq then 105 else 120) [some (.ref 3), some (.int aq), some (.int L), some (.int D), some (.int V), some (.int z), some (.int 1)] [] M v M' 0 0 := Ev.back 5 (fun n => rfl) H
  by_cases h1 : z = aq
  · rw [if_pos h1] at H
    have H : Ev none e 29 107 [some (.ref 3), some (.int aq), some (.int L), some (.int D), some (.int V), some (.int z), some (.int 1)] [.int aq, .ref 3] M v M' 0 0 := Ev.back 2 (fun n => rfl) H
    obtain ⟨e1, rfl⟩ := Ev.dpos rfl rfl H
    obtain ⟨vK2, MK2, K2, H⟩ := Ev.callb (fun n => gs_7 rfl rfl (show gCal (.invokevirtual 99) 3 (.int aq :: .ref 3 :: []) M = some (.inr (30, [some (.ref 3), some (.int aq), none, none], [])) from by show @cond (Option ((List Value × Mem) ⊕ (Nat × Lo × List Value))) (true && gRecv M (.ref 3) 3 && gRoom [] && true) (some (.inr (30, [some (.ref 3), some (.int aq), none, none], []))) none = _; rw [recv_s hS.1 qa_3 qo_3]; rfl)) H
    obtain ⟨pK2, qK2⟩ := g_30 hS K2
    rw [pK2, qK2] at H
    have H : Ev none (e1 + 1) 29 110 [some (.ref 3), some (.int aq), some (.int L), some (.int D), some (.int V), some (.int z), some (.int 1)] [.int (G_30 M aq)] M v M' 0 0 := H
    have H : Ev none (e1 + 1) 29 149 [some (.ref 3), some (.int aq), some (.int L), some (.int D), some (.int V), some (.int (aq + 1)), some (.int (G_30 M aq))] [.ref 3] M v M' 0 0 := Ev.back 7 (fun n => rfl) H
    have H : Ev none (e1 + 1) 29 152 [some (.ref 3), some (.int aq), some (.int L), some (.int D), some (.int V), some (.int (aq + 1)), some (.int (G_30 M aq))] [.ref 4] M v M' 0 0 := Ev.back 1 (gs_3 rfl rfl (gf_u hS.1 qa_3 qr_3_1 qu_4 rfl)) H
    have H : Ev none (e1 + 1) 29 153 [some (.ref 3), some (.int aq), some (.int L), some (.int D), some (.int V), some (.int (aq + 1)), some (.int (G_30 M aq))] [.ref 3, .ref 4] M v M' 0 0 := Ev.back 1 (fun n => rfl) H
    have H : Ev none (e1 + 1) 29 156 [some (.ref 3), some (.int aq), some (.int L), some (.int D), some (.int V), some (.int (aq + 1)), some (.int (G_30 M aq))] [.int (zI M 3 5), .ref 4] M v M' 0 0 := Ev.back 1 (gs_3 rfl rfl (gf_i hS.1 qa_3 qi_3_5 rfl)) H
    have H : Ev none (e1 + 1) 29 158 [some (.ref 3), some (.int aq), some (.int L), some (.int D), some (.int V), some (.int (aq + 1)), some (.int (G_30 M aq))] [.int (G_30 M aq), .int (zI M 3 5), .ref 4] M v M' 0 0 := Ev.back 1 (fun n => rfl) H
    obtain ⟨b3, H⟩ := Ev.ias rfl rfl hS.1 qa_4 qw_4 H
    obtain ⟨N4, eN4⟩ : ∃ N, N = (wI M 4 ((zI M 3 5).toNatClampNeg) (G_30 M aq)) := ⟨_, rfl⟩
    have hN4 : SQ N4 := by rw [eN4]; exact hS.ki
    have H : Ev none (e1 + 1) 29 159 [some (.ref 3), some (.int aq), some (.int L), some (.int D), some (.int V), some (.int (aq + 1)), some (.int (G_30 M aq))] [] N4 v M' 0 0 := by rw [eN4]; exact H
    have H : Ev none (e1 + 1) 29 160 [some (.ref 3), some (.int aq), some (.int L), some (.int D), some (.int V), some (.int (aq + 1)), some (.int (G_30 M aq))] [.ref 3] N4 v M' 0 0 := Ev.back 1 (fun n => rfl) H
    have H : Ev none (e1 + 1) 29 163 [some (.ref 3), some (.int aq), some (.int L), some (.int D), some (.int V), some (.int (aq + 1)), some (.int (G_30 M aq))] [.ref 5] N4 v M' 0 0 := Ev.back 1 (gs_3 rfl rfl (gf_u hN4.1 qa_3 qr_3_2 qu_5 rfl)) H
    have H : Ev none (e1 + 1) 29 164 [some (.ref 3), some (.int aq), some (.int L), some (.int D), some (.int V), some (.int (aq + 1)), some (.int (G_30 M aq))] [.ref 3, .ref 5] N4 v M' 0 0 := Ev.back 1 (fun n => rfl) H
    have H : Ev none (e1 + 1) 29 167 [some (.ref 3), some (.int aq), some (.int L), some (.int D), some (.int V), some (.int (aq + 1)), some (.int (G_30 M aq))] [.int (zI N4 3 5), .ref 5] N4 v M' 0 0 := Ev.back 1 (gs_3 rfl rfl (gf_i hN4.1 qa_3 qi_3_5 rfl)) H
    rw [show zI N4 3 5 = zI M 3 5 from by rw [eN4]; exact fI_wI] at H
    have H : Ev none (e1 + 1) 29 168 [some (.ref 3), some (.int aq), some (.int L), some (.int D), some (.int V), some (.int (aq + 1)), some (.int (G_30 M aq))] [.int aq, .int (zI M 3 5), .ref 5] N4 v M' 0 0 := Ev.back 1 (fun n => rfl) H
    obtain ⟨b5, H⟩ := Ev.ias rfl rfl hN4.1 qa_5 qw_5 H
    obtain ⟨N6, eN6⟩ : ∃ N, N = (wI N4 5 ((zI M 3 5).toNatClampNeg) aq) := ⟨_, rfl⟩
    have hN6 : SQ N6 := by rw [eN6]; exact hN4.ki
    have H : Ev none (e1 + 1) 29 169 [some (.ref 3), some (.int aq), some (.int L), some (.int D), some (.int V), some (.int (aq + 1)), some (.int (G_30 M aq))] [] N6 v M' 0 0 := by rw [eN6]; exact H
    have H : Ev none (e1 + 1) 29 170 [some (.ref 3), some (.int aq), some (.int L), some (.int D), some (.int V), some (.int (aq + 1)), some (.int (G_30 M aq))] [.ref 3] N6 v M' 0 0 := Ev.back 1 (fun n => rfl) H
    have H : Ev none (e1 + 1) 29 173 [some (.ref 3), some (.int aq), some (.int L), some (.int D), some (.int V), some (.int (aq + 1)), some (.int (G_30 M aq))] [.ref 6] N6 v M' 0 0 := Ev.back 1 (gs_3 rfl rfl (gf_u hN6.1 qa_3 qr_3_3 qu_6 rfl)) H
    have H : Ev none (e1 + 1) 29 174 [some (.ref 3), some (.int aq), some (.int L), some (.int D), some (.int V), some (.int (aq + 1)), some (.int (G_30 M aq))] [.ref 3, .ref 6] N6 v M' 0 0 := Ev.back 1 (fun n => rfl) H
    have H : Ev none (e1 + 1) 29 177 [some (.ref 3), some (.int aq), some (.int L), some (.int D), some (.int V), some (.int (aq + 1)), some (.int (G_30 M aq))] [.int (zI N6 3 5), .ref 6] N6 v M' 0 0 := Ev.back 1 (gs_3 rfl rfl (gf_i hN6.1 qa_3 qi_3_5 rfl)) H
    rw [(show zI N6 3 5 = zI N4 3 5 from by rw [eN6]; exact fI_wI).trans (show zI N4 3 5 = zI M 3 5 from by rw [eN4]; exact fI_wI)] at H
    have H : Ev none (e1 + 1) 29 179 [some (.ref 3), some (.int aq), some (.int L), some (.int D), some (.int V), some (.int (aq + 1)), some (.int (G_30 M aq))] [.int (aq + 1), .int (zI M 3 5), .ref 6] N6 v M' 0 0 := Ev.back 1 (fun n => rfl) H
    obtain ⟨b7, H⟩ := Ev.ias rfl rfl hN6.1 qa_6 qw_6 H
    obtain ⟨N8, eN8⟩ : ∃ N, N = (wI N6 6 ((zI M 3 5).toNatClampNeg) (aq + 1)) := ⟨_, rfl⟩
    have hN8 : SQ N8 := by rw [eN8]; exact hN6.ki
    have H : Ev none (e1 + 1) 29 180 [some (.ref 3), some (.int aq), some (.int L), some (.int D), some (.int V), some (.int (aq + 1)), some (.int (G_30 M aq))] [] N8 v M' 0 0 := by rw [eN8]; exact H
    have H : Ev none (e1 + 1) 29 181 [some (.ref 3), some (.int aq), some (.int L), some (.int D), some (.int V), some (.int (aq + 1)), some (.int (G_30 M aq))] [.ref 3] N8 v M' 0 0 := Ev.back 1 (fun n => rfl) H
    have H : Ev none (e1 + 1) 29 184 [some (.ref 3), some (.int aq), some (.int L), some (.int D), some (.int V), some (.int (aq + 1)), some (.int (G_30 M aq))] [.ref 7] N8 v M' 0 0 := Ev.back 1 (gs_3 rfl rfl (gf_u hN8.1 qa_3 qr_3_4 qu_7 rfl)) H
    have H : Ev none (e1 + 1) 29 185 [some (.ref 3), some (.int aq), some (.int L), some (.int D), some (.int V), some (.int (aq + 1)), some (.int (G_30 M aq))] [.ref 3, .ref 7] N8 v M' 0 0 := Ev.back 1 (fun n => rfl) H
    have H : Ev none (e1 + 1) 29 188 [some (.ref 3), some (.int aq), some (.int L), some (.int D), some (.int V), some (.int (aq + 1)), some (.int (G_30 M aq))] [.int (zI N8 3 5), .ref 7] N8 v M' 0 0 := Ev.back 1 (gs_3 rfl rfl (gf_i hN8.1 qa_3 qi_3_5 rfl)) H
    rw [((show zI N8 3 5 = zI N6 3 5 from by rw [eN8]; exact fI_wI).trans (show zI N6 3 5 = zI N4 3 5 from by rw [eN6]; exact fI_wI)).trans (show zI N4 3 5 = zI M 3 5 from by rw [eN4]; exact fI_wI)] at H
    have H : Ev none (e1 + 1) 29 190 [some (.ref 3), some (.int aq), some (.int L), some (.int D), some (.int V), some (.int (aq + 1)), some (.int (G_30 M aq))] [.int V, .int (zI M 3 5), .ref 7] N8 v M' 0 0 := Ev.back 1 (fun n => rfl) H
    obtain ⟨b9, H⟩ := Ev.ias rfl rfl hN8.1 qa_7 qw_7 H
    obtain ⟨N10, eN10⟩ : ∃ N, N = (wI N8 7 ((zI M 3 5).toNatClampNeg) V) := ⟨_, rfl⟩
    have hN10 : SQ N10 := by rw [eN10]; exact hN8.ki
    have H : Ev none (e1 + 1) 29 191 [some (.ref 3), some (.int aq), some (.int L), some (.int D), some (.int V), some (.int (aq + 1)), some (.int (G_30 M aq))] [] N10 v M' 0 0 := by rw [eN10]; exact H
    have H : Ev none (e1 + 1) 29 193 [some (.ref 3), some (.int aq), some (.int L), some (.int D), some (.int V), some (.int (aq + 1)), some (.int (G_30 M aq))] [.int (aq + 1)] N10 v M' 0 0 := Ev.back 1 (fun n => rfl) H
    obtain ⟨z1, z2⟩ := Ev.retz rfl rfl H
    subst eN4 eN6 eN8 eN10
    exact Or.inl ⟨h1, b3, b5, b7, b9, z1, z2⟩
  · rw [if_neg h1] at H
    have H : Ev none e 29 (if D = 0 then 124 else 136) [some (.ref 3), some (.int aq), some (.int L), some (.int D), some (.int V), some (.int z), some (.int 1)] [] M v M' 0 0 := Ev.back 2 (fun n => rfl) H
    by_cases h11 : D = 0
    · rw [if_pos h11] at H
      have H : Ev none e 29 (if 6 < L then 136 else 130) [some (.ref 3), some (.int aq), some (.int L), some (.int D), some (.int V), some (.int z), some (.int 1)] [] M v M' 0 0 := Ev.back 3 (fun n => rfl) H
      by_cases h12 : 6 < L
      · rw [if_pos h12] at H
        have H : Ev none e 29 (if L = 0 then 140 else 148) [some (.ref 3), some (.int aq), some (.int L), some (.int D), some (.int V), some (.int z), some (.int 1)] [] M v M' 0 0 := Ev.back 2 (fun n => rfl) H
        by_cases h13 : L = 0
        · rw [if_pos h13] at H
          have H : Ev none e 29 (if 3 < D then 148 else 145) [some (.ref 3), some (.int aq), some (.int L), some (.int D), some (.int V), some (.int z), some (.int 1)] [] M v M' 0 0 := Ev.back 3 (fun n => rfl) H
          by_cases h14 : 3 < D
          · rw [if_pos h14] at H
            have H : Ev none e 29 149 [some (.ref 3), some (.int aq), some (.int L), some (.int D), some (.int V), some (.int z), some (.int 1)] [.ref 3] M v M' 0 0 := Ev.back 1 (fun n => rfl) H
            have H : Ev none e 29 152 [some (.ref 3), some (.int aq), some (.int L), some (.int D), some (.int V), some (.int z), some (.int 1)] [.ref 4] M v M' 0 0 := Ev.back 1 (gs_3 rfl rfl (gf_u hS.1 qa_3 qr_3_1 qu_4 rfl)) H
            have H : Ev none e 29 153 [some (.ref 3), some (.int aq), some (.int L), some (.int D), some (.int V), some (.int z), some (.int 1)] [.ref 3, .ref 4] M v M' 0 0 := Ev.back 1 (fun n => rfl) H
            have H : Ev none e 29 156 [some (.ref 3), some (.int aq), some (.int L), some (.int D), some (.int V), some (.int z), some (.int 1)] [.int (zI M 3 5), .ref 4] M v M' 0 0 := Ev.back 1 (gs_3 rfl rfl (gf_i hS.1 qa_3 qi_3_5 rfl)) H
            have H : Ev none e 29 158 [some (.ref 3), some (.int aq), some (.int L), some (.int D), some (.int V), some (.int z), some (.int 1)] [.int 1, .int (zI M 3 5), .ref 4] M v M' 0 0 := Ev.back 1 (fun n => rfl) H
            obtain ⟨b15, H⟩ := Ev.ias rfl rfl hS.1 qa_4 qw_4 H
            obtain ⟨N16, eN16⟩ : ∃ N, N = (wI M 4 ((zI M 3 5).toNatClampNeg) 1) := ⟨_, rfl⟩
            have hN16 : SQ N16 := by rw [eN16]; exact hS.ki
            have H : Ev none e 29 159 [some (.ref 3), some (.int aq), some (.int L), some (.int D), some (.int V), some (.int z), some (.int 1)] [] N16 v M' 0 0 := by rw [eN16]; exact H
            have H : Ev none e 29 160 [some (.ref 3), some (.int aq), some (.int L), some (.int D), some (.int V), some (.int z), some (.int 1)] [.ref 3] N16 v M' 0 0 := Ev.back 1 (fun n => rfl) H
            have H : Ev none e 29 163 [some (.ref 3), some (.int aq), some (.int L), some (.int D), some (.int V), some (.int z), some (.int 1)] [.ref 5] N16 v M' 0 0 := Ev.back 1 (gs_3 rfl rfl (gf_u hN16.1 qa_3 qr_3_2 qu_5 rfl)) H
            have H : Ev none e 29 164 [some (.ref 3), some (.int aq), some (.int L), some (.int D), some (.int V), some (.int z), some (.int 1)] [.ref 3, .ref 5] N16 v M' 0 0 := Ev.back 1 (fun n => rfl) H
            have H : Ev none e 29 167 [some (.ref 3), some (.int aq), some (.int L), some (.int D), some (.int V), some (.int z), some (.int 1)] [.int (zI N16 3 5), .ref 5] N16 v M' 0 0 := Ev.back 1 (gs_3 rfl rfl (gf_i hN16.1 qa_3 qi_3_5 rfl)) H
            rw [show zI N16 3 5 = zI M 3 5 from by rw [eN16]; exact fI_wI] at H
            have H : Ev none e 29 168 [some (.ref 3), some (.int aq), some (.int L), some (.int D), some (.int V), some (.int z), some (.int 1)] [.int aq, .int (zI M 3 5), .ref 5] N16 v M' 0 0 := Ev.back 1 (fun n => rfl) H
            obtain ⟨b17, H⟩ := Ev.ias rfl rfl hN16.1 qa_5 qw_5 H
            obtain ⟨N18, eN18⟩ : ∃ N, N = (wI N16 5 ((zI M 3 5).toNatClampNeg) aq) := ⟨_, rfl⟩
            have hN18 : SQ N18 := by rw [eN18]; exact hN16.ki
            have H : Ev none e 29 169 [some (.ref 3), some (.int aq), some (.int L), some (.int D), some (.int V), some (.int z), some (.int 1)] [] N18 v M' 0 0 := by rw [eN18]; exact H
            have H : Ev none e 29 170 [some (.ref 3), some (.int aq), some (.int L), some (.int D), some (.int V), some (.int z), some (.int 1)] [.ref 3] N18 v M' 0 0 := Ev.back 1 (fun n => rfl) H
            have H : Ev none e 29 173 [some (.ref 3), some (.int aq), some (.int L), some (.int D), some (.int V), some (.int z), some (.int 1)] [.ref 6] N18 v M' 0 0 := Ev.back 1 (gs_3 rfl rfl (gf_u hN18.1 qa_3 qr_3_3 qu_6 rfl)) H
            have H : Ev none e 29 174 [some (.ref 3), some (.int aq), some (.int L), some (.int D), some (.int V), some (.int z), some (.int 1)] [.ref 3, .ref 6] N18 v M' 0 0 := Ev.back 1 (fun n => rfl) H
            have H : Ev none e 29 177 [some (.ref 3), some (.int aq), some (.int L), some (.int D), some (.int V), some (.int z), some (.int 1)] [.int (zI N18 3 5), .ref 6] N18 v M' 0 0 := Ev.back 1 (gs_3 rfl rfl (gf_i hN18.1 qa_3 qi_3_5 rfl)) H
            rw [(show zI N18 3 5 = zI N16 3 5 from by rw [eN18]; exact fI_wI).trans (show zI N16 3 5 = zI M 3 5 from by rw [eN16]; exact fI_wI)] at H
            have H : Ev none e 29 179 [some (.ref 3), some (.int aq), some (.int L), some (.int D), some (.int V), some (.int z), some (.int 1)] [.int z, .int (zI M 3 5), .ref 6] N18 v M' 0 0 := Ev.back 1 (fun n => rfl) H
            obtain ⟨b19, H⟩ := Ev.ias rfl rfl hN18.1 qa_6 qw_6 H
            obtain ⟨N20, eN20⟩ : ∃ N, N = (wI N18 6 ((zI M 3 5).toNatClampNeg) z) := ⟨_, rfl⟩
            have hN20 : SQ N20 := by rw [eN20]; exact hN18.ki
            have H : Ev none e 29 180 [some (.ref 3), some (.int aq), some (.int L), some (.int D), some (.int V), some (.int z), some (.int 1)] [] N20 v M' 0 0 := by rw [eN20]; exact H
            have H : Ev none e 29 181 [some (.ref 3), some (.int aq), some (.int L), some (.int D), some (.int V), some (.int z), some (.int 1)] [.ref 3] N20 v M' 0 0 := Ev.back 1 (fun n => rfl) H
            have H : Ev none e 29 184 [some (.ref 3), some (.int aq), some (.int L), some (.int D), some (.int V), some (.int z), some (.int 1)] [.ref 7] N20 v M' 0 0 := Ev.back 1 (gs_3 rfl rfl (gf_u hN20.1 qa_3 qr_3_4 qu_7 rfl)) H
            have H : Ev none e 29 185 [some (.ref 3), some (.int aq), some (.int L), some (.int D), some (.int V), some (.int z), some (.int 1)] [.ref 3, .ref 7] N20 v M' 0 0 := Ev.back 1 (fun n => rfl) H
            have H : Ev none e 29 188 [some (.ref 3), some (.int aq), some (.int L), some (.int D), some (.int V), some (.int z), some (.int 1)] [.int (zI N20 3 5), .ref 7] N20 v M' 0 0 := Ev.back 1 (gs_3 rfl rfl (gf_i hN20.1 qa_3 qi_3_5 rfl)) H
            rw [((show zI N20 3 5 = zI N18 3 5 from by rw [eN20]; exact fI_wI).trans (show zI N18 3 5 = zI N16 3 5 from by rw [eN18]; exact fI_wI)).trans (show zI N16 3 5 = zI M 3 5 from by rw [eN16]; exact fI_wI)] at H
            have H : Ev none e 29 190 [some (.ref 3), some (.int aq), some (.int L), some (.int D), some (.int V), some (.int z), some (.int 1)] [.int V, .int (zI M 3 5), .ref 7] N20 v M' 0 0 := Ev.back 1 (fun n => rfl) H
            obtain ⟨b21, H⟩ := Ev.ias rfl rfl hN20.1 qa_7 qw_7 H
            obtain ⟨N22, eN22⟩ : ∃ N, N = (wI N20 7 ((zI M 3 5).toNatClampNeg) V) := ⟨_, rfl⟩
            have hN22 : SQ N22 := by rw [eN22]; exact hN20.ki
            have H : Ev none e 29 191 [some (.ref 3), some (.int aq), some (.int L), some (.int D), some (.int V), some (.int z), some (.int 1)] [] N22 v M' 0 0 := by rw [eN22]; exact H
            have H : Ev none e 29 193 [some (.ref 3), some (.int aq), some (.int L), some (.int D), some (.int V), some (.int z), some (.int 1)] [.int z] N22 v M' 0 0 := Ev.back 1 (fun n => rfl) H
            obtain ⟨z1, z2⟩ := Ev.retz rfl rfl H
            subst eN16 eN18 eN20 eN22
            exact Or.inr (Or.inl ⟨h1, h11, h12, h13, h14, b15, b17, b19, b21, z1, z2⟩)
          · rw [if_neg h14] at H
            have H : Ev none e 29 149 [some (.ref 3), some (.int aq), some (.int L), some (.int D), some (.int V), some (.int z), some (.int 3)] [.ref 3] M v M' 0 0 := Ev.back 3 (fun n => rfl) H
            have H : Ev none e 29 152 [some (.ref 3), some (.int aq), some (.int L), some (.int D), some (.int V), some (.int z), some (.int 3)] [.ref 4] M v M' 0 0 := Ev.back 1 (gs_3 rfl rfl (gf_u hS.1 qa_3 qr_3_1 qu_4 rfl)) H
            have H : Ev none e 29 153 [some (.ref 3), some (.int aq), some (.int L), some (.int D), some (.int V), some (.int z), some (.int 3)] [.ref 3, .ref 4] M v M' 0 0 := Ev.back 1 (fun n => rfl) H
            have H : Ev none e 29 156 [some (.ref 3), some (.int aq), some (.int L), some (.int D), some (.int V), some (.int z), some (.int 3)] [.int (zI M 3 5), .ref 4] M v M' 0 0 := Ev.back 1 (gs_3 rfl rfl (gf_i hS.1 qa_3 qi_3_5 rfl)) H
            have H : Ev none e 29 158 [some (.ref 3), some (.int aq), some (.int L), some (.int D), some (.int V), some (.int z), some (.int 3)] [.int 3, .int (zI M 3 5), .ref 4] M v M' 0 0 := Ev.back 1 (fun n => rfl) H
            obtain ⟨b23, H⟩ := Ev.ias rfl rfl hS.1 qa_4 qw_4 H
            obtain ⟨N24, eN24⟩ : ∃ N, N = (wI M 4 ((zI M 3 5).toNatClampNeg) 3) := ⟨_, rfl⟩
            have hN24 : SQ N24 := by rw [eN24]; exact hS.ki
            have H : Ev none e 29 159 [some (.ref 3), some (.int aq), some (.int L), some (.int D), some (.int V), some (.int z), some (.int 3)] [] N24 v M' 0 0 := by rw [eN24]; exact H
            have H : Ev none e 29 160 [some (.ref 3), some (.int aq), some (.int L), some (.int D), some (.int V), some (.int z), some (.int 3)] [.ref 3] N24 v M' 0 0 := Ev.back 1 (fun n => rfl) H
            have H : Ev none e 29 163 [some (.ref 3), some (.int aq), some (.int L), some (.int D), some (.int V), some (.int z), some (.int 3)] [.ref 5] N24 v M' 0 0 := Ev.back 1 (gs_3 rfl rfl (gf_u hN24.1 qa_3 qr_3_2 qu_5 rfl)) H
            have H : Ev none e 29 164 [some (.ref 3), some (.int aq), some (.int L), some (.int D), some (.int V), some (.int z), some (.int 3)] [.ref 3, .ref 5] N24 v M' 0 0 := Ev.back 1 (fun n => rfl) H
            have H : Ev none e 29 167 [some (.ref 3), some (.int aq), some (.int L), some (.int D), some (.int V), some (.int z), some (.int 3)] [.int (zI N24 3 5), .ref 5] N24 v M' 0 0 := Ev.back 1 (gs_3 rfl rfl (gf_i hN24.1 qa_3 qi_3_5 rfl)) H
            rw [show zI N24 3 5 = zI M 3 5 from by rw [eN24]; exact fI_wI] at H
            have H : Ev none e 29 168 [some (.ref 3), some (.int aq), some (.int L), some (.int D), some (.int V), some (.int z), some (.int 3)] [.int aq, .int (zI M 3 5), .ref 5] N24 v M' 0 0 := Ev.back 1 (fun n => rfl) H
            obtain ⟨b25, H⟩ := Ev.ias rfl rfl hN24.1 qa_5 qw_5 H
            obtain ⟨N26, eN26⟩ : ∃ N, N = (wI N24 5 ((zI M 3 5).toNatClampNeg) aq) := ⟨_, rfl⟩
            have hN26 : SQ N26 := by rw [eN26]; exact hN24.ki
            have H : Ev none e 29 169 [some (.ref 3), some (.int aq), some (.int L), some (.int D), some (.int V), some (.int z), some (.int 3)] [] N26 v M' 0 0 := by rw [eN26]; exact H
            have H : Ev none e 29 170 [some (.ref 3), some (.int aq), some (.int L), some (.int D), some (.int V), some (.int z), some (.int 3)] [.ref 3] N26 v M' 0 0 := Ev.back 1 (fun n => rfl) H
            have H : Ev none e 29 173 [some (.ref 3), some (.int aq), some (.int L), some (.int D), some (.int V), some (.int z), some (.int 3)] [.ref 6] N26 v M' 0 0 := Ev.back 1 (gs_3 rfl rfl (gf_u hN26.1 qa_3 qr_3_3 qu_6 rfl)) H
            have H : Ev none e 29 174 [some (.ref 3), some (.int aq), some (.int L), some (.int D), some (.int V), some (.int z), some (.int 3)] [.ref 3, .ref 6] N26 v M' 0 0 := Ev.back 1 (fun n => rfl) H
            have H : Ev none e 29 177 [some (.ref 3), some (.int aq), some (.int L), some (.int D), some (.int V), some (.int z), some (.int 3)] [.int (zI N26 3 5), .ref 6] N26 v M' 0 0 := Ev.back 1 (gs_3 rfl rfl (gf_i hN26.1 qa_3 qi_3_5 rfl)) H
            rw [(show zI N26 3 5 = zI N24 3 5 from by rw [eN26]; exact fI_wI).trans (show zI N24 3 5 = zI M 3 5 from by rw [eN24]; exact fI_wI)] at H
            have H : Ev none e 29 179 [some (.ref 3), some (.int aq), some (.int L), some (.int D), some (.int V), some (.int z), some (.int 3)] [.int z, .int (zI M 3 5), .ref 6] N26 v M' 0 0 := Ev.back 1 (fun n => rfl) H
            obtain ⟨b27, H⟩ := Ev.ias rfl rfl hN26.1 qa_6 qw_6 H
            obtain ⟨N28, eN28⟩ : ∃ N, N = (wI N26 6 ((zI M 3 5).toNatClampNeg) z) := ⟨_, rfl⟩
            have hN28 : SQ N28 := by rw [eN28]; exact hN26.ki
            have H : Ev none e 29 180 [some (.ref 3), some (.int aq), some (.int L), some (.int D), some (.int V), some (.int z), some (.int 3)] [] N28 v M' 0 0 := by rw [eN28]; exact H
            have H : Ev none e 29 181 [some (.ref 3), some (.int aq), some (.int L), some (.int D), some (.int V), some (.int z), some (.int 3)] [.ref 3] N28 v M' 0 0 := Ev.back 1 (fun n => rfl) H
            have H : Ev none e 29 184 [some (.ref 3), some (.int aq), some (.int L), some (.int D), some (.int V), some (.int z), some (.int 3)] [.ref 7] N28 v M' 0 0 := Ev.back 1 (gs_3 rfl rfl (gf_u hN28.1 qa_3 qr_3_4 qu_7 rfl)) H
            have H : Ev none e 29 185 [some (.ref 3), some (.int aq), some (.int L), some (.int D), some (.int V), some (.int z), some (.int 3)] [.ref 3, .ref 7] N28 v M' 0 0 := Ev.back 1 (fun n => rfl) H
            have H : Ev none e 29 188 [some (.ref 3), some (.int aq), some (.int L), some (.int D), some (.int V), some (.int z), some (.int 3)] [.int (zI N28 3 5), .ref 7] N28 v M' 0 0 := Ev.back 1 (gs_3 rfl rfl (gf_i hN28.1 qa_3 qi_3_5 rfl)) H
            rw [((show zI N28 3 5 = zI N26 3 5 from by rw [eN28]; exact fI_wI).trans (show zI N26 3 5 = zI N24 3 5 from by rw [eN26]; exact fI_wI)).trans (show zI N24 3 5 = zI M 3 5 from by rw [eN24]; exact fI_wI)] at H
            have H : Ev none e 29 190 [some (.ref 3), some (.int aq), some (.int L), some (.int D), some (.int V), some (.int z), some (.int 3)] [.int V, .int (zI M 3 5), .ref 7] N28 v M' 0 0 := Ev.back 1 (fun n => rfl) H
            obtain ⟨b29, H⟩ := Ev.ias rfl rfl hN28.1 qa_7 qw_7 H
            obtain ⟨N30, eN30⟩ : ∃ N, N = (wI N28 7 ((zI M 3 5).toNatClampNeg) V) := ⟨_, rfl⟩
            have hN30 : SQ N30 := by rw [eN30]; exact hN28.ki
            have H : Ev none e 29 191 [some (.ref 3), some (.int aq), some (.int L), some (.int D), some (.int V), some (.int z), some (.int 3)] [] N30 v M' 0 0 := by rw [eN30]; exact H
            have H : Ev none e 29 193 [some (.ref 3), some (.int aq), some (.int L), some (.int D), some (.int V), some (.int z), some (.int 3)] [.int z] N30 v M' 0 0 := Ev.back 1 (fun n => rfl) H
            obtain ⟨z1, z2⟩ := Ev.retz rfl rfl H
            subst eN24 eN26 eN28 eN30
            exact Or.inr (Or.inr (Or.inl ⟨h1, h11, h12, h13, h14, b23, b25, b27, b29, z1, z2⟩))
        · rw [if_neg h13] at H
          have H : Ev none e 29 149 [some (.ref 3), some (.int aq), some (.int L), some (.int D), some (.int V), some (.int z), some (.int 1)] [.ref 3] M v M' 0 0 := Ev.back 1 (fun n => rfl) H
          have H : Ev none e 29 152 [some (.ref 3), some (.int aq), some (.int L), some (.int D), some (.int V), some (.int z), some (.int 1)] [.ref 4] M v M' 0 0 := Ev.back 1 (gs_3 rfl rfl (gf_u hS.1 qa_3 qr_3_1 qu_4 rfl)) H
          have H : Ev none e 29 153 [some (.ref 3), some (.int aq), some (.int L), some (.int D), some (.int V), some (.int z), some (.int 1)] [.ref 3, .ref 4] M v M' 0 0 := Ev.back 1 (fun n => rfl) H
          have H : Ev none e 29 156 [some (.ref 3), some (.int aq), some (.int L), some (.int D), some (.int V), some (.int z), some (.int 1)] [.int (zI M 3 5), .ref 4] M v M' 0 0 := Ev.back 1 (gs_3 rfl rfl (gf_i hS.1 qa_3 qi_3_5 rfl)) H
          have H : Ev none e 29 158 [some (.ref 3), some (.int aq), some (.int L), some (.int D), some (.int V), some (.int z), some (.int 1)] [.int 1, .int (zI M 3 5), .ref 4] M v M' 0 0 := Ev.back 1 (fun n => rfl) H
          obtain ⟨b31, H⟩ := Ev.ias rfl rfl hS.1 qa_4 qw_4 H
          obtain ⟨N32, eN32⟩ : ∃ N, N = (wI M 4 ((zI M 3 5).toNatClampNeg) 1) := ⟨_, rfl⟩
          have hN32 : SQ N32 := by rw [eN32]; exact hS.ki
          have H : Ev none e 29 159 [some (.ref 3), some (.int aq), some (.int L), some (.int D), some (.int V), some (.int z), some (.int 1)] [] N32 v M' 0 0 := by rw [eN32]; exact H
          have H : Ev none e 29 160 [some (.ref 3), some (.int aq), some (.int L), some (.int D), some (.int V), some (.int z), some (.int 1)] [.ref 3] N32 v M' 0 0 := Ev.back 1 (fun n => rfl) H
          have H : Ev none e 29 163 [some (.ref 3), some (.int aq), some (.int L), some (.int D), some (.int V), some (.int z), some (.int 1)] [.ref 5] N32 v M' 0 0 := Ev.back 1 (gs_3 rfl rfl (gf_u hN32.1 qa_3 qr_3_2 qu_5 rfl)) H
          have H : Ev none e 29 164 [some (.ref 3), some (.int aq), some (.int L), some (.int D), some (.int V), some (.int z), some (.int 1)] [.ref 3, .ref 5] N32 v M' 0 0 := Ev.back 1 (fun n => rfl) H
          have H : Ev none e 29 167 [some (.ref 3), some (.int aq), some (.int L), some (.int D), some (.int V), some (.int z), some (.int 1)] [.int (zI N32 3 5), .ref 5] N32 v M' 0 0 := Ev.back 1 (gs_3 rfl rfl (gf_i hN32.1 qa_3 qi_3_5 rfl)) H
          rw [show zI N32 3 5 = zI M 3 5 from by rw [eN32]; exact fI_wI] at H
          have H : Ev none e 29 168 [some (.ref 3), some (.int aq), some (.int L), some (.int D), some (.int V), some (.int z), some (.int 1)] [.int aq, .int (zI M 3 5), .ref 5] N32 v M' 0 0 := Ev.back 1 (fun n => rfl) H
          obtain ⟨b33, H⟩ := Ev.ias rfl rfl hN32.1 qa_5 qw_5 H
          obtain ⟨N34, eN34⟩ : ∃ N, N = (wI N32 5 ((zI M 3 5).toNatClampNeg) aq) := ⟨_, rfl⟩
          have hN34 : SQ N34 := by rw [eN34]; exact hN32.ki
          have H : Ev none e 29 169 [some (.ref 3), some (.int aq), some (.int L), some (.int D), some (.int V), some (.int z), some (.int 1)] [] N34 v M' 0 0 := by rw [eN34]; exact H
          have H : Ev none e 29 170 [some (.ref 3), some (.int aq), some (.int L), some (.int D), some (.int V), some (.int z), some (.int 1)] [.ref 3] N34 v M' 0 0 := Ev.back 1 (fun n => rfl) H
          have H : Ev none e 29 173 [some (.ref 3), some (.int aq), some (.int L), some (.int D), some (.int V), some (.int z), some (.int 1)] [.ref 6] N34 v M' 0 0 := Ev.back 1 (gs_3 rfl rfl (gf_u hN34.1 qa_3 qr_3_3 qu_6 rfl)) H
          have H : Ev none e 29 174 [some (.ref 3), some (.int aq), some (.int L), some (.int D), some (.int V), some (.int z), some (.int 1)] [.ref 3, .ref 6] N34 v M' 0 0 := Ev.back 1 (fun n => rfl) H
          have H : Ev none e 29 177 [some (.ref 3), some (.int aq), some (.int L), some (.int D), some (.int V), some (.int z), some (.int 1)] [.int (zI N34 3 5), .ref 6] N34 v M' 0 0 := Ev.back 1 (gs_3 rfl rfl (gf_i hN34.1 qa_3 qi_3_5 rfl)) H
          rw [(show zI N34 3 5 = zI N32 3 5 from by rw [eN34]; exact fI_wI).trans (show zI N32 3 5 = zI M 3 5 from by rw [eN32]; exact fI_wI)] at H
          have H : Ev none e 29 179 [some (.ref 3), some (.int aq), some (.int L), some (.int D), some (.int V), some (.int z), some (.int 1)] [.int z, .int (zI M 3 5), .ref 6] N34 v M' 0 0 := Ev.back 1 (fun n => rfl) H
          obtain ⟨b35, H⟩ := Ev.ias rfl rfl hN34.1 qa_6 qw_6 H
          obtain ⟨N36, eN36⟩ : ∃ N, N = (wI N34 6 ((zI M 3 5).toNatClampNeg) z) := ⟨_, rfl⟩
          have hN36 : SQ N36 := by rw [eN36]; exact hN34.ki
          have H : Ev none e 29 180 [some (.ref 3), some (.int aq), some (.int L), some (.int D), some (.int V), some (.int z), some (.int 1)] [] N36 v M' 0 0 := by rw [eN36]; exact H
          have H : Ev none e 29 181 [some (.ref 3), some (.int aq), some (.int L), some (.int D), some (.int V), some (.int z), some (.int 1)] [.ref 3] N36 v M' 0 0 := Ev.back 1 (fun n => rfl) H
          have H : Ev none e 29 184 [some (.ref 3), some (.int aq), some (.int L), some (.int D), some (.int V), some (.int z), some (.int 1)] [.ref 7] N36 v M' 0 0 := Ev.back 1 (gs_3 rfl rfl (gf_u hN36.1 qa_3 qr_3_4 qu_7 rfl)) H
          have H : Ev none e 29 185 [some (.ref 3), some (.int aq), some (.int L), some (.int D), some (.int V), some (.int z), some (.int 1)] [.ref 3, .ref 7] N36 v M' 0 0 := Ev.back 1 (fun n => rfl) H
          have H : Ev none e 29 188 [some (.ref 3), some (.int aq), some (.int L), some (.int D), some (.int V), some (.int z), some (.int 1)] [.int (zI N36 3 5), .ref 7] N36 v M' 0 0 := Ev.back 1 (gs_3 rfl rfl (gf_i hN36.1 qa_3 qi_3_5 rfl)) H
          rw [((show zI N36 3 5 = zI N34 3 5 from by rw [eN36]; exact fI_wI).trans (show zI N34 3 5 = zI N32 3 5 from by rw [eN34]; exact fI_wI)).trans (show zI N32 3 5 = zI M 3 5 from by rw [eN32]; exact fI_wI)] at H
          have H : Ev none e 29 190 [some (.ref 3), some (.int aq), some (.int L), some (.int D), some (.int V), some (.int z), some (.int 1)] [.int V, .int (zI M 3 5), .ref 7] N36 v M' 0 0 := Ev.back 1 (fun n => rfl) H
          obtain ⟨b37, H⟩ := Ev.ias rfl rfl hN36.1 qa_7 qw_7 H
          obtain ⟨N38, eN38⟩ : ∃ N, N = (wI N36 7 ((zI M 3 5).toNatClampNeg) V) := ⟨_, rfl⟩
          have hN38 : SQ N38 := by rw [eN38]; exact hN36.ki
          have H : Ev none e 29 191 [some (.ref 3), some (.int aq), some (.int L), some (.int D), some (.int V), some (.int z), some (.int 1)] [] N38 v M' 0 0 := by rw [eN38]; exact H
          have H : Ev none e 29 193 [some (.ref 3), some (.int aq), some (.int L), some (.int D), some (.int V), some (.int z), some (.int 1)] [.int z] N38 v M' 0 0 := Ev.back 1 (fun n => rfl) H
          obtain ⟨z1, z2⟩ := Ev.retz rfl rfl H
          subst eN32 eN34 eN36 eN38
          exact Or.inr (Or.inr (Or.inr (Or.inl ⟨h1, h11, h12, h13, b31, b33, b35, b37, z1, z2⟩)))
      · rw [if_neg h12] at H
        have H : Ev none e 29 149 [some (.ref 3), some (.int aq), some (.int L), some (.int D), some (.int V), some (.int z), some (.int 2)] [.ref 3] M v M' 0 0 := Ev.back 4 (fun n => rfl) H
        have H : Ev none e 29 152 [some (.ref 3), some (.int aq), some (.int L), some (.int D), some (.int V), some (.int z), some (.int 2)] [.ref 4] M v M' 0 0 := Ev.back 1 (gs_3 rfl rfl (gf_u hS.1 qa_3 qr_3_1 qu_4 rfl)) H
        have H : Ev none e 29 153 [some (.ref 3), some (.int aq), some (.int L), some (.int D), some (.int V), some (.int z), some (.int 2)] [.ref 3, .ref 4] M v M' 0 0 := Ev.back 1 (fun n => rfl) H
        have H : Ev none e 29 156 [some (.ref 3), some (.int aq), some (.int L), some (.int D), some (.int V), some (.int z), some (.int 2)] [.int (zI M 3 5), .ref 4] M v M' 0 0 := Ev.back 1 (gs_3 rfl rfl (gf_i hS.1 qa_3 qi_3_5 rfl)) H
        have H : Ev none e 29 158 [some (.ref 3), some (.int aq), some (.int L), some (.int D), some (.int V), some (.int z), some (.int 2)] [.int 2, .int (zI M 3 5), .ref 4] M v M' 0 0 := Ev.back 1 (fun n => rfl) H
        obtain ⟨b39, H⟩ := Ev.ias rfl rfl hS.1 qa_4 qw_4 H
        obtain ⟨N40, eN40⟩ : ∃ N, N = (wI M 4 ((zI M 3 5).toNatClampNeg) 2) := ⟨_, rfl⟩
        have hN40 : SQ N40 := by rw [eN40]; exact hS.ki
        have H : Ev none e 29 159 [some (.ref 3), some (.int aq), some (.int L), some (.int D), some (.int V), some (.int z), some (.int 2)] [] N40 v M' 0 0 := by rw [eN40]; exact H
        have H : Ev none e 29 160 [some (.ref 3), some (.int aq), some (.int L), some (.int D), some (.int V), some (.int z), some (.int 2)] [.ref 3] N40 v M' 0 0 := Ev.back 1 (fun n => rfl) H
        have H : Ev none e 29 163 [some (.ref 3), some (.int aq), some (.int L), some (.int D), some (.int V), some (.int z), some (.int 2)] [.ref 5] N40 v M' 0 0 := Ev.back 1 (gs_3 rfl rfl (gf_u hN40.1 qa_3 qr_3_2 qu_5 rfl)) H
        have H : Ev none e 29 164 [some (.ref 3), some (.int aq), some (.int L), some (.int D), some (.int V), some (.int z), some (.int 2)] [.ref 3, .ref 5] N40 v M' 0 0 := Ev.back 1 (fun n => rfl) H
        have H : Ev none e 29 167 [some (.ref 3), some (.int aq), some (.int L), some (.int D), some (.int V), some (.int z), some (.int 2)] [.int (zI N40 3 5), .ref 5] N40 v M' 0 0 := Ev.back 1 (gs_3 rfl rfl (gf_i hN40.1 qa_3 qi_3_5 rfl)) H
        rw [show zI N40 3 5 = zI M 3 5 from by rw [eN40]; exact fI_wI] at H
        have H : Ev none e 29 168 [some (.ref 3), some (.int aq), some (.int L), some (.int D), some (.int V), some (.int z), some (.int 2)] [.int aq, .int (zI M 3 5), .ref 5] N40 v M' 0 0 := Ev.back 1 (fun n => rfl) H
        obtain ⟨b41, H⟩ := Ev.ias rfl rfl hN40.1 qa_5 qw_5 H
        obtain ⟨N42, eN42⟩ : ∃ N, N = (wI N40 5 ((zI M 3 5).toNatClampNeg) aq) := ⟨_, rfl⟩
        have hN42 : SQ N42 := by rw [eN42]; exact hN40.ki
        have H : Ev none e 29 169 [some (.ref 3), some (.int aq), some (.int L), some (.int D), some (.int V), some (.int z), some (.int 2)] [] N42 v M' 0 0 := by rw [eN42]; exact H
        have H : Ev none e 29 170 [some (.ref 3), some (.int aq), some (.int L), some (.int D), some (.int V), some (.int z), some (.int 2)] [.ref 3] N42 v M' 0 0 := Ev.back 1 (fun n => rfl) H
        have H : Ev none e 29 173 [some (.ref 3), some (.int aq), some (.int L), some (.int D), some (.int V), some (.int z), some (.int 2)] [.ref 6] N42 v M' 0 0 := Ev.back 1 (gs_3 rfl rfl (gf_u hN42.1 qa_3 qr_3_3 qu_6 rfl)) H
        have H : Ev none e 29 174 [some (.ref 3), some (.int aq), some (.int L), some (.int D), some (.int V), some (.int z), some (.int 2)] [.ref 3, .ref 6] N42 v M' 0 0 := Ev.back 1 (fun n => rfl) H
        have H : Ev none e 29 177 [some (.ref 3), some (.int aq), some (.int L), some (.int D), some (.int V), some (.int z), some (.int 2)] [.int (zI N42 3 5), .ref 6] N42 v M' 0 0 := Ev.back 1 (gs_3 rfl rfl (gf_i hN42.1 qa_3 qi_3_5 rfl)) H
        rw [(show zI N42 3 5 = zI N40 3 5 from by rw [eN42]; exact fI_wI).trans (show zI N40 3 5 = zI M 3 5 from by rw [eN40]; exact fI_wI)] at H
        have H : Ev none e 29 179 [some (.ref 3), some (.int aq), some (.int L), some (.int D), some (.int V), some (.int z), some (.int 2)] [.int z, .int (zI M 3 5), .ref 6] N42 v M' 0 0 := Ev.back 1 (fun n => rfl) H
        obtain ⟨b43, H⟩ := Ev.ias rfl rfl hN42.1 qa_6 qw_6 H
        obtain ⟨N44, eN44⟩ : ∃ N, N = (wI N42 6 ((zI M 3 5).toNatClampNeg) z) := ⟨_, rfl⟩
        have hN44 : SQ N44 := by rw [eN44]; exact hN42.ki
        have H : Ev none e 29 180 [some (.ref 3), some (.int aq), some (.int L), some (.int D), some (.int V), some (.int z), some (.int 2)] [] N44 v M' 0 0 := by rw [eN44]; exact H
        have H : Ev none e 29 181 [some (.ref 3), some (.int aq), some (.int L), some (.int D), some (.int V), some (.int z), some (.int 2)] [.ref 3] N44 v M' 0 0 := Ev.back 1 (fun n => rfl) H
        have H : Ev none e 29 184 [some (.ref 3), some (.int aq), some (.int L), some (.int D), some (.int V), some (.int z), some (.int 2)] [.ref 7] N44 v M' 0 0 := Ev.back 1 (gs_3 rfl rfl (gf_u hN44.1 qa_3 qr_3_4 qu_7 rfl)) H
        have H : Ev none e 29 185 [some (.ref 3), some (.int aq), some (.int L), some (.int D), some (.int V), some (.int z), some (.int 2)] [.ref 3, .ref 7] N44 v M' 0 0 := Ev.back 1 (fun n => rfl) H
        have H : Ev none e 29 188 [some (.ref 3), some (.int aq), some (.int L), some (.int D), some (.int V), some (.int z), some (.int 2)] [.int (zI N44 3 5), .ref 7] N44 v M' 0 0 := Ev.back 1 (gs_3 rfl rfl (gf_i hN44.1 qa_3 qi_3_5 rfl)) H
        rw [((show zI N44 3 5 = zI N42 3 5 from by rw [eN44]; exact fI_wI).trans (show zI N42 3 5 = zI N40 3 5 from by rw [eN42]; exact fI_wI)).trans (show zI N40 3 5 = zI M 3 5 from by rw [eN40]; exact fI_wI)] at H
        have H : Ev none e 29 190 [some (.ref 3), some (.int aq), some (.int L), some (.int D), some (.int V), some (.int z), some (.int 2)] [.int V, .int (zI M 3 5), .ref 7] N44 v M' 0 0 := Ev.back 1 (fun n => rfl) H
        obtain ⟨b45, H⟩ := Ev.ias rfl rfl hN44.1 qa_7 qw_7 H
        obtain ⟨N46, eN46⟩ : ∃ N, N = (wI N44 7 ((zI M 3 5).toNatClampNeg) V) := ⟨_, rfl⟩
        have hN46 : SQ N46 := by rw [eN46]; exact hN44.ki
        have H : Ev none e 29 191 [some (.ref 3), some (.int aq), some (.int L), some (.int D), some (.int V), some (.int z), some (.int 2)] [] N46 v M' 0 0 := by rw [eN46]; exact H
        have H : Ev none e 29 193 [some (.ref 3), some (.int aq), some (.int L), some (.int D), some (.int V), some (.int z), some (.int 2)] [.int z] N46 v M' 0 0 := Ev.back 1 (fun n => rfl) H
        obtain ⟨z1, z2⟩ := Ev.retz rfl rfl H
        subst eN40 eN42 eN44 eN46
        exact Or.inr (Or.inr (Or.inr (Or.inr (Or.inl ⟨h1, h11, h12, b39, b41, b43, b45, z1, z2⟩))))
    · rw [if_neg h11] at H
      have H : Ev none e 29 (if L = 0 then 140 else 148) [some (.ref 3), some (.int aq), some (.int L), some (.int D), some (.int V), some (.int z), some (.int 1)] [] M v M' 0 0 := Ev.back 2 (fun n => rfl) H
      by_cases h47 : L = 0
      · rw [if_pos h47] at H
        have H : Ev none e 29 (if 3 < D then 148 else 145) [some (.ref 3), some (.int aq), some (.int L), some (.int D), some (.int V), some (.int z), some (.int 1)] [] M v M' 0 0 := Ev.back 3 (fun n => rfl) H
        by_cases h48 : 3 < D
        · rw [if_pos h48] at H
          have H : Ev none e 29 149 [some (.ref 3), some (.int aq), some (.int L), some (.int D), some (.int V), some (.int z), some (.int 1)] [.ref 3] M v M' 0 0 := Ev.back 1 (fun n => rfl) H
          have H : Ev none e 29 152 [some (.ref 3), some (.int aq), some (.int L), some (.int D), some (.int V), some (.int z), some (.int 1)] [.ref 4] M v M' 0 0 := Ev.back 1 (gs_3 rfl rfl (gf_u hS.1 qa_3 qr_3_1 qu_4 rfl)) H
          have H : Ev none e 29 153 [some (.ref 3), some (.int aq), some (.int L), some (.int D), some (.int V), some (.int z), some (.int 1)] [.ref 3, .ref 4] M v M' 0 0 := Ev.back 1 (fun n => rfl) H
          have H : Ev none e 29 156 [some (.ref 3), some (.int aq), some (.int L), some (.int D), some (.int V), some (.int z), some (.int 1)] [.int (zI M 3 5), .ref 4] M v M' 0 0 := Ev.back 1 (gs_3 rfl rfl (gf_i hS.1 qa_3 qi_3_5 rfl)) H
          have H : Ev none e 29 158 [some (.ref 3), some (.int aq), some (.int L), some (.int D), some (.int V), some (.int z), some (.int 1)] [.int 1, .int (zI M 3 5), .ref 4] M v M' 0 0 := Ev.back 1 (fun n => rfl) H
          obtain ⟨b49, H⟩ := Ev.ias rfl rfl hS.1 qa_4 qw_4 H
          obtain ⟨N50, eN50⟩ : ∃ N, N = (wI M 4 ((zI M 3 5).toNatClampNeg) 1) := ⟨_, rfl⟩
          have hN50 : SQ N50 := by rw [eN50]; exact hS.ki
          have H : Ev none e 29 159 [some (.ref 3), some (.int aq), some (.int L), some (.int D), some (.int V), some (.int z), some (.int 1)] [] N50 v M' 0 0 := by rw [eN50]; exact H
          have H : Ev none e 29 160 [some (.ref 3), some (.int aq), some (.int L), some (.int D), some (.int V), some (.int z), some (.int 1)] [.ref 3] N50 v M' 0 0 := Ev.back 1 (fun n => rfl) H
          have H : Ev none e 29 163 [some (.ref 3), some (.int aq), some (.int L), some (.int D), some (.int V), some (.int z), some (.int 1)] [.ref 5] N50 v M' 0 0 := Ev.back 1 (gs_3 rfl rfl (gf_u hN50.1 qa_3 qr_3_2 qu_5 rfl)) H
          have H : Ev none e 29 164 [some (.ref 3), some (.int aq), some (.int L), some (.int D), some (.int V), some (.int z), some (.int 1)] [.ref 3, .ref 5] N50 v M' 0 0 := Ev.back 1 (fun n => rfl) H
          have H : Ev none e 29 167 [some (.ref 3), some (.int aq), some (.int L), some (.int D), some (.int V), some (.int z), some (.int 1)] [.int (zI N50 3 5), .ref 5] N50 v M' 0 0 := Ev.back 1 (gs_3 rfl rfl (gf_i hN50.1 qa_3 qi_3_5 rfl)) H
          rw [show zI N50 3 5 = zI M 3 5 from by rw [eN50]; exact fI_wI] at H
          have H : Ev none e 29 168 [some (.ref 3), some (.int aq), some (.int L), some (.int D), some (.int V), some (.int z), some (.int 1)] [.int aq, .int (zI M 3 5), .ref 5] N50 v M' 0 0 := Ev.back 1 (fun n => rfl) H
          obtain ⟨b51, H⟩ := Ev.ias rfl rfl hN50.1 qa_5 qw_5 H
          obtain ⟨N52, eN52⟩ : ∃ N, N = (wI N50 5 ((zI M 3 5).toNatClampNeg) aq) := ⟨_, rfl⟩
          have hN52 : SQ N52 := by rw [eN52]; exact hN50.ki
          have H : Ev none e 29 169 [some (.ref 3), some (.int aq), some (.int L), some (.int D), some (.int V), some (.int z), some (.int 1)] [] N52 v M' 0 0 := by rw [eN52]; exact H
          have H : Ev none e 29 170 [some (.ref 3), some (.int aq), some (.int L), some (.int D), some (.int V), some (.int z), some (.int 1)] [.ref 3] N52 v M' 0 0 := Ev.back 1 (fun n => rfl) H
          have H : Ev none e 29 173 [some (.ref 3), some (.int aq), some (.int L), some (.int D), some (.int V), some (.int z), some (.int 1)] [.ref 6] N52 v M' 0 0 := Ev.back 1 (gs_3 rfl rfl (gf_u hN52.1 qa_3 qr_3_3 qu_6 rfl)) H
          have H : Ev none e 29 174 [some (.ref 3), some (.int aq), some (.int L), some (.int D), some (.int V), some (.int z), some (.int 1)] [.ref 3, .ref 6] N52 v M' 0 0 := Ev.back 1 (fun n => rfl) H
          have H : Ev none e 29 177 [some (.ref 3), some (.int aq), some (.int L), some (.int D), some (.int V), some (.int z), some (.int 1)] [.int (zI N52 3 5), .ref 6] N52 v M' 0 0 := Ev.back 1 (gs_3 rfl rfl (gf_i hN52.1 qa_3 qi_3_5 rfl)) H
          rw [(show zI N52 3 5 = zI N50 3 5 from by rw [eN52]; exact fI_wI).trans (show zI N50 3 5 = zI M 3 5 from by rw [eN50]; exact fI_wI)] at H
          have H : Ev none e 29 179 [some (.ref 3), some (.int aq), some (.int L), some (.int D), some (.int V), some (.int z), some (.int 1)] [.int z, .int (zI M 3 5), .ref 6] N52 v M' 0 0 := Ev.back 1 (fun n => rfl) H
          obtain ⟨b53, H⟩ := Ev.ias rfl rfl hN52.1 qa_6 qw_6 H
          obtain ⟨N54, eN54⟩ : ∃ N, N = (wI N52 6 ((zI M 3 5).toNatClampNeg) z) := ⟨_, rfl⟩
          have hN54 : SQ N54 := by rw [eN54]; exact hN52.ki
          have H : Ev none e 29 180 [some (.ref 3), some (.int aq), some (.int L), some (.int D), some (.int V), some (.int z), some (.int 1)] [] N54 v M' 0 0 := by rw [eN54]; exact H
          have H : Ev none e 29 181 [some (.ref 3), some (.int aq), some (.int L), some (.int D), some (.int V), some (.int z), some (.int 1)] [.ref 3] N54 v M' 0 0 := Ev.back 1 (fun n => rfl) H
          have H : Ev none e 29 184 [some (.ref 3), some (.int aq), some (.int L), some (.int D), some (.int V), some (.int z), some (.int 1)] [.ref 7] N54 v M' 0 0 := Ev.back 1 (gs_3 rfl rfl (gf_u hN54.1 qa_3 qr_3_4 qu_7 rfl)) H
          have H : Ev none e 29 185 [some (.ref 3), some (.int aq), some (.int L), some (.int D), some (.int V), some (.int z), some (.int 1)] [.ref 3, .ref 7] N54 v M' 0 0 := Ev.back 1 (fun n => rfl) H
          have H : Ev none e 29 188 [some (.ref 3), some (.int aq), some (.int L), some (.int D), some (.int V), some (.int z), some (.int 1)] [.int (zI N54 3 5), .ref 7] N54 v M' 0 0 := Ev.back 1 (gs_3 rfl rfl (gf_i hN54.1 qa_3 qi_3_5 rfl)) H
          rw [((show zI N54 3 5 = zI N52 3 5 from by rw [eN54]; exact fI_wI).trans (show zI N52 3 5 = zI N50 3 5 from by rw [eN52]; exact fI_wI)).trans (show zI N50 3 5 = zI M 3 5 from by rw [eN50]; exact fI_wI)] at H
          have H : Ev none e 29 190 [some (.ref 3), some (.int aq), some (.int L), some (.int D), some (.int V), some (.int z), some (.int 1)] [.int V, .int (zI M 3 5), .ref 7] N54 v M' 0 0 := Ev.back 1 (fun n => rfl) H
          obtain ⟨b55, H⟩ := Ev.ias rfl rfl hN54.1 qa_7 qw_7 H
          obtain ⟨N56, eN56⟩ : ∃ N, N = (wI N54 7 ((zI M 3 5).toNatClampNeg) V) := ⟨_, rfl⟩
          have hN56 : SQ N56 := by rw [eN56]; exact hN54.ki
          have H : Ev none e 29 191 [some (.ref 3), some (.int aq), some (.int L), some (.int D), some (.int V), some (.int z), some (.int 1)] [] N56 v M' 0 0 := by rw [eN56]; exact H
          have H : Ev none e 29 193 [some (.ref 3), some (.int aq), some (.int L), some (.int D), some (.int V), some (.int z), some (.int 1)] [.int z] N56 v M' 0 0 := Ev.back 1 (fun n => rfl) H
          obtain ⟨z1, z2⟩ := Ev.retz rfl rfl H
          subst eN50 eN52 eN54 eN56
          exact Or.inr (Or.inr (Or.inr (Or.inr (Or.inr (Or.inl ⟨h1, h11, h47, h48, b49, b51, b53, b55, z1, z2⟩)))))
        · rw [if_neg h48] at H
          have H : Ev none e 29 149 [some (.ref 3), some (.int aq), some (.int L), some (.int D), some (.int V), some (.int z), some (.int 3)] [.ref 3] M v M' 0 0 := Ev.back 3 (fun n => rfl) H
          have H : Ev none e 29 152 [some (.ref 3), some (.int aq), some (.int L), some (.int D), some (.int V), some (.int z), some (.int 3)] [.ref 4] M v M' 0 0 := Ev.back 1 (gs_3 rfl rfl (gf_u hS.1 qa_3 qr_3_1 qu_4 rfl)) H
          have H : Ev none e 29 153 [some (.ref 3), some (.int aq), some (.int L), some (.int D), some (.int V), some (.int z), some (.int 3)] [.ref 3, .ref 4] M v M' 0 0 := Ev.back 1 (fun n => rfl) H
          have H : Ev none e 29 156 [some (.ref 3), some (.int aq), some (.int L), some (.int D), some (.int V), some (.int z), some (.int 3)] [.int (zI M 3 5), .ref 4] M v M' 0 0 := Ev.back 1 (gs_3 rfl rfl (gf_i hS.1 qa_3 qi_3_5 rfl)) H
          have H : Ev none e 29 158 [some (.ref 3), some (.int aq), some (.int L), some (.int D), some (.int V), some (.int z), some (.int 3)] [.int 3, .int (zI M 3 5), .ref 4] M v M' 0 0 := Ev.back 1 (fun n => rfl) H
          obtain ⟨b57, H⟩ := Ev.ias rfl rfl hS.1 qa_4 qw_4 H
          obtain ⟨N58, eN58⟩ : ∃ N, N = (wI M 4 ((zI M 3 5).toNatClampNeg) 3) := ⟨_, rfl⟩
          have hN58 : SQ N58 := by rw [eN58]; exact hS.ki
          have H : Ev none e 29 159 [some (.ref 3), some (.int aq), some (.int L), some (.int D), some (.int V), some (.int z), some (.int 3)] [] N58 v M' 0 0 := by rw [eN58]; exact H
          have H : Ev none e 29 160 [some (.ref 3), some (.int aq), some (.int L), some (.int D), some (.int V), some (.int z), some (.int 3)] [.ref 3] N58 v M' 0 0 := Ev.back 1 (fun n => rfl) H
          have H : Ev none e 29 163 [some (.ref 3), some (.int aq), some (.int L), some (.int D), some (.int V), some (.int z), some (.int 3)] [.ref 5] N58 v M' 0 0 := Ev.back 1 (gs_3 rfl rfl (gf_u hN58.1 qa_3 qr_3_2 qu_5 rfl)) H
          have H : Ev none e 29 164 [some (.ref 3), some (.int aq), some (.int L), some (.int D), some (.int V), some (.int z), some (.int 3)] [.ref 3, .ref 5] N58 v M' 0 0 := Ev.back 1 (fun n => rfl) H
          have H : Ev none e 29 167 [some (.ref 3), some (.int aq), some (.int L), some (.int D), some (.int V), some (.int z), some (.int 3)] [.int (zI N58 3 5), .ref 5] N58 v M' 0 0 := Ev.back 1 (gs_3 rfl rfl (gf_i hN58.1 qa_3 qi_3_5 rfl)) H
          rw [show zI N58 3 5 = zI M 3 5 from by rw [eN58]; exact fI_wI] at H
          have H : Ev none e 29 168 [some (.ref 3), some (.int aq), some (.int L), some (.int D), some (.int V), some (.int z), some (.int 3)] [.int aq, .int (zI M 3 5), .ref 5] N58 v M' 0 0 := Ev.back 1 (fun n => rfl) H
          obtain ⟨b59, H⟩ := Ev.ias rfl rfl hN58.1 qa_5 qw_5 H
          obtain ⟨N60, eN60⟩ : ∃ N, N = (wI N58 5 ((zI M 3 5).toNatClampNeg) aq) := ⟨_, rfl⟩
          have hN60 : SQ N60 := by rw [eN60]; exact hN58.ki
          have H : Ev none e 29 169 [some (.ref 3), some (.int aq), some (.int L), some (.int D), some (.int V), some (.int z), some (.int 3)] [] N60 v M' 0 0 := by rw [eN60]; exact H
          have H : Ev none e 29 170 [some (.ref 3), some (.int aq), some (.int L), some (.int D), some (.int V), some (.int z), some (.int 3)] [.ref 3] N60 v M' 0 0 := Ev.back 1 (fun n => rfl) H
          have H : Ev none e 29 173 [some (.ref 3), some (.int aq), some (.int L), some (.int D), some (.int V), some (.int z), some (.int 3)] [.ref 6] N60 v M' 0 0 := Ev.back 1 (gs_3 rfl rfl (gf_u hN60.1 qa_3 qr_3_3 qu_6 rfl)) H
          have H : Ev none e 29 174 [some (.ref 3), some (.int aq), some (.int L), some (.int D), some (.int V), some (.int z), some (.int 3)] [.ref 3, .ref 6] N60 v M' 0 0 := Ev.back 1 (fun n => rfl) H
          have H : Ev none e 29 177 [some (.ref 3), some (.int aq), some (.int L), some (.int D), some (.int V), some (.int z), some (.int 3)] [.int (zI N60 3 5), .ref 6] N60 v M' 0 0 := Ev.back 1 (gs_3 rfl rfl (gf_i hN60.1 qa_3 qi_3_5 rfl)) H
          rw [(show zI N60 3 5 = zI N58 3 5 from by rw [eN60]; exact fI_wI).trans (show zI N58 3 5 = zI M 3 5 from by rw [eN58]; exact fI_wI)] at H
          have H : Ev none e 29 179 [some (.ref 3), some (.int aq), some (.int L), some (.int D), some (.int V), some (.int z), some (.int 3)] [.int z, .int (zI M 3 5), .ref 6] N60 v M' 0 0 := Ev.back 1 (fun n => rfl) H
          obtain ⟨b61, H⟩ := Ev.ias rfl rfl hN60.1 qa_6 qw_6 H
          obtain ⟨N62, eN62⟩ : ∃ N, N = (wI N60 6 ((zI M 3 5).toNatClampNeg) z) := ⟨_, rfl⟩
          have hN62 : SQ N62 := by rw [eN62]; exact hN60.ki
          have H : Ev none e 29 180 [some (.ref 3), some (.int aq), some (.int L), some (.int D), some (.int V), some (.int z), some (.int 3)] [] N62 v M' 0 0 := by rw [eN62]; exact H
          have H : Ev none e 29 181 [some (.ref 3), some (.int aq), some (.int L), some (.int D), some (.int V), some (.int z), some (.int 3)] [.ref 3] N62 v M' 0 0 := Ev.back 1 (fun n => rfl) H
          have H : Ev none e 29 184 [some (.ref 3), some (.int aq), some (.int L), some (.int D), some (.int V), some (.int z), some (.int 3)] [.ref 7] N62 v M' 0 0 := Ev.back 1 (gs_3 rfl rfl (gf_u hN62.1 qa_3 qr_3_4 qu_7 rfl)) H
          have H : Ev none e 29 185 [some (.ref 3), some (.int aq), some (.int L), some (.int D), some (.int V), some (.int z), some (.int 3)] [.ref 3, .ref 7] N62 v M' 0 0 := Ev.back 1 (fun n => rfl) H
          have H : Ev none e 29 188 [some (.ref 3), some (.int aq), some (.int L), some (.int D), some (.int V), some (.int z), some (.int 3)] [.int (zI N62 3 5), .ref 7] N62 v M' 0 0 := Ev.back 1 (gs_3 rfl rfl (gf_i hN62.1 qa_3 qi_3_5 rfl)) H
          rw [((show zI N62 3 5 = zI N60 3 5 from by rw [eN62]; exact fI_wI).trans (show zI N60 3 5 = zI N58 3 5 from by rw [eN60]; exact fI_wI)).trans (show zI N58 3 5 = zI M 3 5 from by rw [eN58]; exact fI_wI)] at H
          have H : Ev none e 29 190 [some (.ref 3), some (.int aq), some (.int L), some (.int D), some (.int V), some (.int z), some (.int 3)] [.int V, .int (zI M 3 5), .ref 7] N62 v M' 0 0 := Ev.back 1 (fun n => rfl) H
          obtain ⟨b63, H⟩ := Ev.ias rfl rfl hN62.1 qa_7 qw_7 H
          obtain ⟨N64, eN64⟩ : ∃ N, N = (wI N62 7 ((zI M 3 5).toNatClampNeg) V) := ⟨_, rfl⟩
          have hN64 : SQ N64 := by rw [eN64]; exact hN62.ki
          have H : Ev none e 29 191 [some (.ref 3), some (.int aq), some (.int L), some (.int D), some (.int V), some (.int z), some (.int 3)] [] N64 v M' 0 0 := by rw [eN64]; exact H
          have H : Ev none e 29 193 [some (.ref 3), some (.int aq), some (.int L), some (.int D), some (.int V), some (.int z), some (.int 3)] [.int z] N64 v M' 0 0 := Ev.back 1 (fun n => rfl) H
          obtain ⟨z1, z2⟩ := Ev.retz rfl rfl H
          subst eN58 eN60 eN62 eN64
          exact Or.inr (Or.inr (Or.inr (Or.inr (Or.inr (Or.inr (Or.inl ⟨h1, h11, h47, h48, b57, b59, b61, b63, z1, z2⟩))))))
      · rw [if_neg h47] at H
        have H : Ev none e 29 149 [some (.ref 3), some (.int aq), some (.int L), some (.int D), some (.int V), some (.int z), some (.int 1)] [.ref 3] M v M' 0 0 := Ev.back 1 (fun n => rfl) H
        have H : Ev none e 29 152 [some (.ref 3), some (.int aq), some (.int L), some (.int D), some (.int V), some (.int z), some (.int 1)] [.ref 4] M v M' 0 0 := Ev.back 1 (gs_3 rfl rfl (gf_u hS.1 qa_3 qr_3_1 qu_4 rfl)) H
        have H : Ev none e 29 153 [some (.ref 3), some (.int aq), some (.int L), some (.int D), some (.int V), some (.int z), some (.int 1)] [.ref 3, .ref 4] M v M' 0 0 := Ev.back 1 (fun n => rfl) H
        have H : Ev none e 29 156 [some (.ref 3), some (.int aq), some (.int L), some (.int D), some (.int V), some (.int z), some (.int 1)] [.int (zI M 3 5), .ref 4] M v M' 0 0 := Ev.back 1 (gs_3 rfl rfl (gf_i hS.1 qa_3 qi_3_5 rfl)) H
        have H : Ev none e 29 158 [some (.ref 3), some (.int aq), some (.int L), some (.int D), some (.int V), some (.int z), some (.int 1)] [.int 1, .int (zI M 3 5), .ref 4] M v M' 0 0 := Ev.back 1 (fun n => rfl) H
        obtain ⟨b65, H⟩ := Ev.ias rfl rfl hS.1 qa_4 qw_4 H
        obtain ⟨N66, eN66⟩ : ∃ N, N = (wI M 4 ((zI M 3 5).toNatClampNeg) 1) := ⟨_, rfl⟩
        have hN66 : SQ N66 := by rw [eN66]; exact hS.ki
        have H : Ev none e 29 159 [some (.ref 3), some (.int aq), some (.int L), some (.int D), some (.int V), some (.int z), some (.int 1)] [] N66 v M' 0 0 := by rw [eN66]; exact H
        have H : Ev none e 29 160 [some (.ref 3), some (.int aq), some (.int L), some (.int D), some (.int V), some (.int z), some (.int 1)] [.ref 3] N66 v M' 0 0 := Ev.back 1 (fun n => rfl) H
        have H : Ev none e 29 163 [some (.ref 3), some (.int aq), some (.int L), some (.int D), some (.int V), some (.int z), some (.int 1)] [.ref 5] N66 v M' 0 0 := Ev.back 1 (gs_3 rfl rfl (gf_u hN66.1 qa_3 qr_3_2 qu_5 rfl)) H
        have H : Ev none e 29 164 [some (.ref 3), some (.int aq), some (.int L), some (.int D), some (.int V), some (.int z), some (.int 1)] [.ref 3, .ref 5] N66 v M' 0 0 := Ev.back 1 (fun n => rfl) H
        have H : Ev none e 29 167 [some (.ref 3), some (.int aq), some (.int L), some (.int D), some (.int V), some (.int z), some (.int 1)] [.int (zI N66 3 5), .ref 5] N66 v M' 0 0 := Ev.back 1 (gs_3 rfl rfl (gf_i hN66.1 qa_3 qi_3_5 rfl)) H
        rw [show zI N66 3 5 = zI M 3 5 from by rw [eN66]; exact fI_wI] at H
        have H : Ev none e 29 168 [some (.ref 3), some (.int aq), some (.int L), some (.int D), some (.int V), some (.int z), some (.int 1)] [.int aq, .int (zI M 3 5), .ref 5] N66 v M' 0 0 := Ev.back 1 (fun n => rfl) H
        obtain ⟨b67, H⟩ := Ev.ias rfl rfl hN66.1 qa_5 qw_5 H
        obtain ⟨N68, eN68⟩ : ∃ N, N = (wI N66 5 ((zI M 3 5).toNatClampNeg) aq) := ⟨_, rfl⟩
        have hN68 : SQ N68 := by rw [eN68]; exact hN66.ki
        have H : Ev none e 29 169 [some (.ref 3), some (.int aq), some (.int L), some (.int D), some (.int V), some (.int z), some (.int 1)] [] N68 v M' 0 0 := by rw [eN68]; exact H
        have H : Ev none e 29 170 [some (.ref 3), some (.int aq), some (.int L), some (.int D), some (.int V), some (.int z), some (.int 1)] [.ref 3] N68 v M' 0 0 := Ev.back 1 (fun n => rfl) H
        have H : Ev none e 29 173 [some (.ref 3), some (.int aq), some (.int L), some (.int D), some (.int V), some (.int z), some (.int 1)] [.ref 6] N68 v M' 0 0 := Ev.back 1 (gs_3 rfl rfl (gf_u hN68.1 qa_3 qr_3_3 qu_6 rfl)) H
        have H : Ev none e 29 174 [some (.ref 3), some (.int aq), some (.int L), some (.int D), some (.int V), some (.int z), some (.int 1)] [.ref 3, .ref 6] N68 v M' 0 0 := Ev.back 1 (fun n => rfl) H
        have H : Ev none e 29 177 [some (.ref 3), some (.int aq), some (.int L), some (.int D), some (.int V), some (.int z), some (.int 1)] [.int (zI N68 3 5), .ref 6] N68 v M' 0 0 := Ev.back 1 (gs_3 rfl rfl (gf_i hN68.1 qa_3 qi_3_5 rfl)) H
        rw [(show zI N68 3 5 = zI N66 3 5 from by rw [eN68]; exact fI_wI).trans (show zI N66 3 5 = zI M 3 5 from by rw [eN66]; exact fI_wI)] at H
        have H : Ev none e 29 179 [some (.ref 3), some (.int aq), some (.int L), some (.int D), some (.int V), some (.int z), some (.int 1)] [.int z, .int (zI M 3 5), .ref 6] N68 v M' 0 0 := Ev.back 1 (fun n => rfl) H
        obtain ⟨b69, H⟩ := Ev.ias rfl rfl hN68.1 qa_6 qw_6 H
        obtain ⟨N70, eN70⟩ : ∃ N, N = (wI N68 6 ((zI M 3 5).toNatClampNeg) z) := ⟨_, rfl⟩
        have hN70 : SQ N70 := by rw [eN70]; exact hN68.ki
        have H : Ev none e 29 180 [some (.ref 3), some (.int aq), some (.int L), some (.int D), some (.int V), some (.int z), some (.int 1)] [] N70 v M' 0 0 := by rw [eN70]; exact H
        have H : Ev none e 29 181 [some (.ref 3), some (.int aq), some (.int L), some (.int D), some (.int V), some (.int z), some (.int 1)] [.ref 3] N70 v M' 0 0 := Ev.back 1 (fun n => rfl) H
        have H : Ev none e 29 184 [some (.ref 3), some (.int aq), some (.int L), some (.int D), some (.int V), some (.int z), some (.int 1)] [.ref 7] N70 v M' 0 0 := Ev.back 1 (gs_3 rfl rfl (gf_u hN70.1 qa_3 qr_3_4 qu_7 rfl)) H
        have H : Ev none e 29 185 [some (.ref 3), some (.int aq), some (.int L), some (.int D), some (.int V), some (.int z), some (.int 1)] [.ref 3, .ref 7] N70 v M' 0 0 := Ev.back 1 (fun n => rfl) H
        have H : Ev none e 29 188 [some (.ref 3), some (.int aq), some (.int L), some (.int D), some (.int V), some (.int z), some (.int 1)] [.int (zI N70 3 5), .ref 7] N70 v M' 0 0 := Ev.back 1 (gs_3 rfl rfl (gf_i hN70.1 qa_3 qi_3_5 rfl)) H
        rw [((show zI N70 3 5 = zI N68 3 5 from by rw [eN70]; exact fI_wI).trans (show zI N68 3 5 = zI N66 3 5 from by rw [eN68]; exact fI_wI)).trans (show zI N66 3 5 = zI M 3 5 from by rw [eN66]; exact fI_wI)] at H
        have H : Ev none e 29 190 [some (.ref 3), some (.int aq), some (.int L), some (.int D), some (.int V), some (.int z), some (.int 1)] [.int V, .int (zI M 3 5), .ref 7] N70 v M' 0 0 := Ev.back 1 (fun n => rfl) H
        obtain ⟨b71, H⟩ := Ev.ias rfl rfl hN70.1 qa_7 qw_7 H
        obtain ⟨N72, eN72⟩ : ∃ N, N = (wI N70 7 ((zI M 3 5).toNatClampNeg) V) := ⟨_, rfl⟩
        have hN72 : SQ N72 := by rw [eN72]; exact hN70.ki
        have H : Ev none e 29 191 [some (.ref 3), some (.int aq), some (.int L), some (.int D), some (.int V), some (.int z), some (.int 1)] [] N72 v M' 0 0 := by rw [eN72]; exact H
        have H : Ev none e 29 193 [some (.ref 3), some (.int aq), some (.int L), some (.int D), some (.int V), some (.int z), some (.int 1)] [.int z] N72 v M' 0 0 := Ev.back 1 (fun n => rfl) H
        obtain ⟨z1, z2⟩ := Ev.retz rfl rfl H
        subst eN66 eN68 eN70 eN72
        exact Or.inr (Or.inr (Or.inr (Or.inr (Or.inr (Or.inr (Or.inr (⟨h1, h11, h47, b65, b67, b69, b71, z1, z2⟩)))))))
theorem ft_0 {e : Nat} {M M' : Mem} {v : Option Value} (hS : SQ M) (H : Ev none e 28 0 [some (.ref 3), none, none, none, none] [] M v M' 0 0) : Ev none e 28 21 [some (.ref 3), some (.int (if 400 < (zI M 1 1) then 400 else (zI M 1 1))), some (.int 0), none, none] [] (wF M 3 5 0) v M' 0 0 := by
  have H : Ev none e 28 1 [some (.ref 3), none, none, none, none] [.ref 3] M v M' 0 0 := Ev.back 1 (fun n => rfl) H
  have H : Ev none e 28 4 [some (.ref 3), none, none, none, none] [.ref 1] M v M' 0 0 := Ev.back 1 (gs_3 rfl rfl (gf_u hS.1 qa_3 qr_3_0 qu_1 rfl)) H
  have H : Ev none e 28 7 [some (.ref 3), none, none, none, none] [.int (zI M 1 1)] M v M' 0 0 := Ev.back 1 (gs_3 rfl rfl (gf_i hS.1 qa_1 qi_1_1 rfl)) H
  have H : Ev none e 28 10 [some (.ref 3), none, none, none, none] [.int 400, .int (zI M 1 1)] M v M' 0 0 := Ev.back 1 (fun n => rfl) H
  obtain ⟨e1, rfl⟩ := Ev.dpos rfl rfl H
  have H : Ev none (e1 + 1) 28 18 [some (.ref 3), some (.int (if 400 < (zI M 1 1) then 400 else (zI M 1 1))), some (.int 0), none, none] [.int 0, .ref 3] M v M' 0 0 := Ev.back 6 (fun n => rfl) H
  obtain ⟨N2, eN2⟩ : ∃ N, N = (wF M 3 5 0) := ⟨_, rfl⟩
  have hN2 : SQ N2 := by rw [eN2]; exact hS.kf
  have H : Ev none (e1 + 1) 28 21 [some (.ref 3), some (.int (if 400 < (zI M 1 1) then 400 else (zI M 1 1))), some (.int 0), none, none] [] N2 v M' 0 0 := by rw [eN2]; exact Ev.pfi rfl rfl rfl hS.1 qa_3 qi_3_5 H
  have HF := H
  subst eN2
  exact HF
theorem ft_21 {e : Nat} {M M' : Mem} {v : Option Value} {E aq : Int32} {c0 c1 : Option Value} (hS : SQ M) (H : Ev none e 28 21 [some (.ref 3), some (.int E), some (.int aq), c0, c1] [] M v M' 0 0) : (E ≤ aq ∧ Ev none e 28 97 [some (.ref 3), some (.int E), some (.int aq), c0, c1] [] M v M' 0 0) ∨ (¬ (E ≤ aq) ∧ (rI M 2 aq) = 32 ∧ Ev none e 28 21 [some (.ref 3), some (.int E), some (.int (aq + 1)), some (.int (rI M 2 aq)), some (.int (aq + 1))] [] M v M' 0 0) ∨ (¬ (E ≤ aq) ∧ ¬ ((rI M 2 aq) = 32) ∧ (rI M 2 aq) = 10 ∧ Ev none e 28 21 [some (.ref 3), some (.int E), some (.int (aq + 1)), some (.int (rI M 2 aq)), some (.int (aq + 1))] [] M v M' 0 0) ∨ (¬ (E ≤ aq) ∧ ¬ ((rI M 2 aq) = 32) ∧ ¬ ((rI M 2 aq) = 10) ∧ (∃ e1 v1 M1, e = e1 + 1 ∧ Ev none e1 29 0 [some (.ref 3), some (.int aq), none, none, none, none, none] [] M v1 M1 0 0 ∧ Ev none e 28 60 [some (.ref 3), some (.int E), some (.int aq), some (.int (rI M 2 aq)), some (.int (aq + 1))] (v1.toList ++ [.int (aq + 1)]) M1 v M' 0 0)) := by
  have H : Ev none e 28 (if E ≤ aq then 97 else 26) [some (.ref 3), some (.int E), some (.int aq), c0, c1] [] M v M' 0 0 := Ev.back 3 (fun n => rfl) H
  by_cases h1 : E ≤ aq
  · rw [if_pos h1] at H
    have HF := H
    exact Or.inl ⟨h1, HF⟩
  · rw [if_neg h1] at H
    have H : Ev none e 28 27 [some (.ref 3), some (.int E), some (.int aq), c0, c1] [.ref 3] M v M' 0 0 := Ev.back 1 (fun n => rfl) H
    have H : Ev none e 28 30 [some (.ref 3), some (.int E), some (.int aq), c0, c1] [.ref 1] M v M' 0 0 := Ev.back 1 (gs_3 rfl rfl (gf_u hS.1 qa_3 qr_3_0 qu_1 rfl)) H
    have H : Ev none e 28 33 [some (.ref 3), some (.int E), some (.int aq), c0, c1] [.ref 2] M v M' 0 0 := Ev.back 1 (gs_3 rfl rfl (gf_u hS.1 qa_1 qr_1_0 qu_2 rfl)) H
    have H : Ev none e 28 34 [some (.ref 3), some (.int E), some (.int aq), c0, c1] [.int aq, .ref 2] M v M' 0 0 := Ev.back 1 (fun n => rfl) H
    obtain ⟨b2, H⟩ := Ev.ial rfl rfl hS.1 qa_2 qw_2 H
    have H : Ev none e 28 35 [some (.ref 3), some (.int E), some (.int aq), c0, c1] [.int (rI M 2 aq)] M v M' 0 0 := H
    have H : Ev none e 28 (if (rI M 2 aq) = 32 then 91 else 47) [some (.ref 3), some (.int E), some (.int aq), some (.int (rI M 2 aq)), some (.int (aq + 1))] [] M v M' 0 0 := Ev.back 8 (fun n => rfl) H
    by_cases h3 : (rI M 2 aq) = 32
    · rw [if_pos h3] at H
      have H : Ev none e 28 21 [some (.ref 3), some (.int E), some (.int (aq + 1)), some (.int (rI M 2 aq)), some (.int (aq + 1))] [] M v M' 0 0 := Ev.back 3 (fun n => rfl) H
      have HF := H
      exact Or.inr (Or.inl ⟨h1, h3, HF⟩)
    · rw [if_neg h3] at H
      have H : Ev none e 28 (if (rI M 2 aq) = 10 then 91 else 53) [some (.ref 3), some (.int E), some (.int aq), some (.int (rI M 2 aq)), some (.int (aq + 1))] [] M v M' 0 0 := Ev.back 3 (fun n => rfl) H
      by_cases h4 : (rI M 2 aq) = 10
      · rw [if_pos h4] at H
        have H : Ev none e 28 21 [some (.ref 3), some (.int E), some (.int (aq + 1)), some (.int (rI M 2 aq)), some (.int (aq + 1))] [] M v M' 0 0 := Ev.back 3 (fun n => rfl) H
        have HF := H
        exact Or.inr (Or.inr (Or.inl ⟨h1, h3, h4, HF⟩))
      · rw [if_neg h4] at H
        have H : Ev none e 28 57 [some (.ref 3), some (.int E), some (.int aq), some (.int (rI M 2 aq)), some (.int (aq + 1))] [.int aq, .ref 3, .int (aq + 1)] M v M' 0 0 := Ev.back 3 (fun n => rfl) H
        obtain ⟨e1, rfl⟩ := Ev.dpos rfl rfl H
        obtain ⟨vK5, MK5, K5, H⟩ := Ev.callb (fun n => gs_7 rfl rfl (show gCal (.invokevirtual 88) 3 (.int aq :: .ref 3 :: [.int (aq + 1)]) M = some (.inr (29, [some (.ref 3), some (.int aq), none, none, none, none, none], [.int (aq + 1)])) from by show @cond (Option ((List Value × Mem) ⊕ (Nat × Lo × List Value))) (true && gRecv M (.ref 3) 3 && gRoom [.int (aq + 1)] && true) (some (.inr (29, [some (.ref 3), some (.int aq), none, none, none, none, none], [.int (aq + 1)]))) none = _; rw [recv_s hS.1 qa_3 qo_3]; rfl)) H
        have K5 : Ev none e1 29 0 [some (.ref 3), some (.int aq), none, none, none, none, none] [] M vK5 MK5 0 0 := K5
        have HF := H
        exact Or.inr (Or.inr (Or.inr (⟨h1, h3, h4, ⟨e1, vK5, MK5, rfl, K5, HF⟩⟩)))
theorem ft_60 {e : Nat} {M M' : Mem} {v : Option Value} {E aq c nx y : Int32} (hS : SQ M) (H : Ev none e 28 60 [some (.ref 3), some (.int E), some (.int aq), some (.int c), some (.int nx)] [.int y, .int nx] M v M' 0 0) : ((rI M 4 (((zI M 3 5) + 1) - 1)) = 1 ∧ v = none ∧ M' = (wF M 3 5 ((zI M 3 5) + 1))) ∨ (¬ ((rI M 4 (((zI M 3 5) + 1) - 1)) = 1) ∧ Ev none e 28 21 [some (.ref 3), some (.int E), some (.int (if nx < y then y else nx)), some (.int c), some (.int (if nx < y then y else nx))] [] (wF M 3 5 ((zI M 3 5) + 1)) v M' 0 0) := by
  obtain ⟨e1, rfl⟩ := Ev.dpos rfl rfl H
  have H : Ev none (e1 + 1) 28 67 [some (.ref 3), some (.int E), some (.int aq), some (.int c), some (.int (if nx < y then y else nx))] [.ref 3, .ref 3] M v M' 0 0 := Ev.back 4 (fun n => rfl) H
  have H : Ev none (e1 + 1) 28 70 [some (.ref 3), some (.int E), some (.int aq), some (.int c), some (.int (if nx < y then y else nx))] [.int (zI M 3 5), .ref 3] M v M' 0 0 := Ev.back 1 (gs_3 rfl rfl (gf_i hS.1 qa_3 qi_3_5 rfl)) H
  have H : Ev none (e1 + 1) 28 72 [some (.ref 3), some (.int E), some (.int aq), some (.int c), some (.int (if nx < y then y else nx))] [.int ((zI M 3 5) + 1), .ref 3] M v M' 0 0 := Ev.back 2 (fun n => rfl) H
  obtain ⟨N2, eN2⟩ : ∃ N, N = (wF M 3 5 ((zI M 3 5) + 1)) := ⟨_, rfl⟩
  have hN2 : SQ N2 := by rw [eN2]; exact hS.kf
  have H : Ev none (e1 + 1) 28 75 [some (.ref 3), some (.int E), some (.int aq), some (.int c), some (.int (if nx < y then y else nx))] [] N2 v M' 0 0 := by rw [eN2]; exact Ev.pfi rfl rfl rfl hS.1 qa_3 qi_3_5 H
  have H : Ev none (e1 + 1) 28 76 [some (.ref 3), some (.int E), some (.int aq), some (.int c), some (.int (if nx < y then y else nx))] [.ref 3] N2 v M' 0 0 := Ev.back 1 (fun n => rfl) H
  have H : Ev none (e1 + 1) 28 79 [some (.ref 3), some (.int E), some (.int aq), some (.int c), some (.int (if nx < y then y else nx))] [.ref 4] N2 v M' 0 0 := Ev.back 1 (gs_3 rfl rfl (gf_u hN2.1 qa_3 qr_3_1 qu_4 rfl)) H
  have H : Ev none (e1 + 1) 28 80 [some (.ref 3), some (.int E), some (.int aq), some (.int c), some (.int (if nx < y then y else nx))] [.ref 3, .ref 4] N2 v M' 0 0 := Ev.back 1 (fun n => rfl) H
  have H : Ev none (e1 + 1) 28 83 [some (.ref 3), some (.int E), some (.int aq), some (.int c), some (.int (if nx < y then y else nx))] [.int (zI N2 3 5), .ref 4] N2 v M' 0 0 := Ev.back 1 (gs_3 rfl rfl (gf_i hN2.1 qa_3 qi_3_5 rfl)) H
  rw [show zI N2 3 5 = (zI M 3 5) + 1 from by rw [eN2]; exact fI_wF_eq hS.1 qa_3 qi_3_5] at H
  have H : Ev none (e1 + 1) 28 85 [some (.ref 3), some (.int E), some (.int aq), some (.int c), some (.int (if nx < y then y else nx))] [.int (((zI M 3 5) + 1) - 1), .ref 4] N2 v M' 0 0 := Ev.back 2 (fun n => rfl) H
  obtain ⟨b3, H⟩ := Ev.ial rfl rfl hN2.1 qa_4 qw_4 H
  have H : Ev none (e1 + 1) 28 86 [some (.ref 3), some (.int E), some (.int aq), some (.int c), some (.int (if nx < y then y else nx))] [.int (rI N2 4 (((zI M 3 5) + 1) - 1))] N2 v M' 0 0 := H
  rw [show rI N2 4 (((zI M 3 5) + 1) - 1) = rI M 4 (((zI M 3 5) + 1) - 1) from by rw [eN2]; exact rN_wF] at H
  have H : Ev none (e1 + 1) 28 (if (rI M 4 (((zI M 3 5) + 1) - 1)) = 1 then 90 else 91) [some (.ref 3), some (.int E), some (.int aq), some (.int c), some (.int (if nx < y then y else nx))] [] N2 v M' 0 0 := Ev.back 2 (fun n => rfl) H
  by_cases h4 : (rI M 4 (((zI M 3 5) + 1) - 1)) = 1
  · rw [if_pos h4] at H
    obtain ⟨z1, z2⟩ := Ev.retb (fun n => rfl) H
    subst eN2
    exact Or.inl ⟨h4, z1, z2⟩
  · rw [if_neg h4] at H
    have H : Ev none (e1 + 1) 28 21 [some (.ref 3), some (.int E), some (.int (if nx < y then y else nx)), some (.int c), some (.int (if nx < y then y else nx))] [] N2 v M' 0 0 := Ev.back 3 (fun n => rfl) H
    have HF := H
    subst eN2
    exact Or.inr (⟨h4, HF⟩)
theorem ft_97 {e : Nat} {M M' : Mem} {v : Option Value} {E aq : Int32} {c0 c1 : Option Value} (hS : SQ M) (H : Ev none e 28 97 [some (.ref 3), some (.int E), some (.int aq), c0, c1] [] M v M' 0 0) : (0 ≤ (zI M 3 5).toInt ∧ (zI M 3 5).toInt < 401) ∧ (0 ≤ (zI M 3 5).toInt ∧ (zI M 3 5).toInt < 401) ∧ (0 ≤ (zI M 3 5).toInt ∧ (zI M 3 5).toInt < 401) ∧ v = none ∧ M' = (wF (wI (wI (wI M 4 ((zI M 3 5).toNatClampNeg) 0) 5 ((zI M 3 5).toNatClampNeg) E) 6 ((zI M 3 5).toNatClampNeg) E) 3 5 ((zI M 3 5) + 1)) := by
  have H : Ev none e 28 98 [some (.ref 3), some (.int E), some (.int aq), c0, c1] [.ref 3] M v M' 0 0 := Ev.back 1 (fun n => rfl) H
  have H : Ev none e 28 101 [some (.ref 3), some (.int E), some (.int aq), c0, c1] [.ref 4] M v M' 0 0 := Ev.back 1 (gs_3 rfl rfl (gf_u hS.1 qa_3 qr_3_1 qu_4 rfl)) H
  have H : Ev none e 28 102 [some (.ref 3), some (.int E), some (.int aq), c0, c1] [.ref 3, .ref 4] M v M' 0 0 := Ev.back 1 (fun n => rfl) H
  have H : Ev none e 28 105 [some (.ref 3), some (.int E), some (.int aq), c0, c1] [.int (zI M 3 5), .ref 4] M v M' 0 0 := Ev.back 1 (gs_3 rfl rfl (gf_i hS.1 qa_3 qi_3_5 rfl)) H
  have H : Ev none e 28 106 [some (.ref 3), some (.int E), some (.int aq), c0, c1] [.int 0, .int (zI M 3 5), .ref 4] M v M' 0 0 := Ev.back 1 (fun n => rfl) H
  obtain ⟨b1, H⟩ := Ev.ias rfl rfl hS.1 qa_4 qw_4 H
  obtain ⟨N2, eN2⟩ : ∃ N, N = (wI M 4 ((zI M 3 5).toNatClampNeg) 0) := ⟨_, rfl⟩
  have hN2 : SQ N2 := by rw [eN2]; exact hS.ki
  have H : Ev none e 28 107 [some (.ref 3), some (.int E), some (.int aq), c0, c1] [] N2 v M' 0 0 := by rw [eN2]; exact H
  have H : Ev none e 28 108 [some (.ref 3), some (.int E), some (.int aq), c0, c1] [.ref 3] N2 v M' 0 0 := Ev.back 1 (fun n => rfl) H
  have H : Ev none e 28 111 [some (.ref 3), some (.int E), some (.int aq), c0, c1] [.ref 5] N2 v M' 0 0 := Ev.back 1 (gs_3 rfl rfl (gf_u hN2.1 qa_3 qr_3_2 qu_5 rfl)) H
  have H : Ev none e 28 112 [some (.ref 3), some (.int E), some (.int aq), c0, c1] [.ref 3, .ref 5] N2 v M' 0 0 := Ev.back 1 (fun n => rfl) H
  have H : Ev none e 28 115 [some (.ref 3), some (.int E), some (.int aq), c0, c1] [.int (zI N2 3 5), .ref 5] N2 v M' 0 0 := Ev.back 1 (gs_3 rfl rfl (gf_i hN2.1 qa_3 qi_3_5 rfl)) H
  rw [show zI N2 3 5 = zI M 3 5 from by rw [eN2]; exact fI_wI] at H
  have H : Ev none e 28 116 [some (.ref 3), some (.int E), some (.int aq), c0, c1] [.int E, .int (zI M 3 5), .ref 5] N2 v M' 0 0 := Ev.back 1 (fun n => rfl) H
  obtain ⟨b3, H⟩ := Ev.ias rfl rfl hN2.1 qa_5 qw_5 H
  obtain ⟨N4, eN4⟩ : ∃ N, N = (wI N2 5 ((zI M 3 5).toNatClampNeg) E) := ⟨_, rfl⟩
  have hN4 : SQ N4 := by rw [eN4]; exact hN2.ki
  have H : Ev none e 28 117 [some (.ref 3), some (.int E), some (.int aq), c0, c1] [] N4 v M' 0 0 := by rw [eN4]; exact H
  have H : Ev none e 28 118 [some (.ref 3), some (.int E), some (.int aq), c0, c1] [.ref 3] N4 v M' 0 0 := Ev.back 1 (fun n => rfl) H
  have H : Ev none e 28 121 [some (.ref 3), some (.int E), some (.int aq), c0, c1] [.ref 6] N4 v M' 0 0 := Ev.back 1 (gs_3 rfl rfl (gf_u hN4.1 qa_3 qr_3_3 qu_6 rfl)) H
  have H : Ev none e 28 122 [some (.ref 3), some (.int E), some (.int aq), c0, c1] [.ref 3, .ref 6] N4 v M' 0 0 := Ev.back 1 (fun n => rfl) H
  have H : Ev none e 28 125 [some (.ref 3), some (.int E), some (.int aq), c0, c1] [.int (zI N4 3 5), .ref 6] N4 v M' 0 0 := Ev.back 1 (gs_3 rfl rfl (gf_i hN4.1 qa_3 qi_3_5 rfl)) H
  rw [(show zI N4 3 5 = zI N2 3 5 from by rw [eN4]; exact fI_wI).trans (show zI N2 3 5 = zI M 3 5 from by rw [eN2]; exact fI_wI)] at H
  have H : Ev none e 28 126 [some (.ref 3), some (.int E), some (.int aq), c0, c1] [.int E, .int (zI M 3 5), .ref 6] N4 v M' 0 0 := Ev.back 1 (fun n => rfl) H
  obtain ⟨b5, H⟩ := Ev.ias rfl rfl hN4.1 qa_6 qw_6 H
  obtain ⟨N6, eN6⟩ : ∃ N, N = (wI N4 6 ((zI M 3 5).toNatClampNeg) E) := ⟨_, rfl⟩
  have hN6 : SQ N6 := by rw [eN6]; exact hN4.ki
  have H : Ev none e 28 127 [some (.ref 3), some (.int E), some (.int aq), c0, c1] [] N6 v M' 0 0 := by rw [eN6]; exact H
  have H : Ev none e 28 129 [some (.ref 3), some (.int E), some (.int aq), c0, c1] [.ref 3, .ref 3] N6 v M' 0 0 := Ev.back 2 (fun n => rfl) H
  have H : Ev none e 28 132 [some (.ref 3), some (.int E), some (.int aq), c0, c1] [.int (zI N6 3 5), .ref 3] N6 v M' 0 0 := Ev.back 1 (gs_3 rfl rfl (gf_i hN6.1 qa_3 qi_3_5 rfl)) H
  rw [((show zI N6 3 5 = zI N4 3 5 from by rw [eN6]; exact fI_wI).trans (show zI N4 3 5 = zI N2 3 5 from by rw [eN4]; exact fI_wI)).trans (show zI N2 3 5 = zI M 3 5 from by rw [eN2]; exact fI_wI)] at H
  have H : Ev none e 28 134 [some (.ref 3), some (.int E), some (.int aq), c0, c1] [.int ((zI M 3 5) + 1), .ref 3] N6 v M' 0 0 := Ev.back 2 (fun n => rfl) H
  obtain ⟨N8, eN8⟩ : ∃ N, N = (wF N6 3 5 ((zI M 3 5) + 1)) := ⟨_, rfl⟩
  have hN8 : SQ N8 := by rw [eN8]; exact hN6.kf
  have H : Ev none e 28 137 [some (.ref 3), some (.int E), some (.int aq), c0, c1] [] N8 v M' 0 0 := by rw [eN8]; exact Ev.pfi rfl rfl rfl hN6.1 qa_3 qi_3_5 H
  obtain ⟨z1, z2⟩ := Ev.retb (fun n => rfl) H
  subst eN2 eN4 eN6 eN8
  exact ⟨b1, b3, b5, z1, z2⟩
