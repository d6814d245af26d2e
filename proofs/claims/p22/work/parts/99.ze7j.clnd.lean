/-! THE CLASS'S lands: copy, renew: pieces (made by gwal3.py) -/
theorem cpy_0 {e : Nat} {M M' : Mem} {v : Option Value} {L Ot : Nat} (hS : SQ M) (a_L : gNth sT L = some 8) (a_Ot : gNth sT Ot = some 8) (H : Ev none e 13 0 [some (.ref L), some (.ref Ot), none] [] M v M' 0 0) : Ev none e 13 8 [some (.ref L), some (.ref Ot), none] [] (wF M L 0 (zI M Ot 0)) v M' 0 0 := by
  have H : Ev none e 13 2 [some (.ref L), some (.ref Ot), none] [.ref Ot, .ref L] M v M' 0 0 := Ev.back 2 (fun n => rfl) H
  have H : Ev none e 13 5 [some (.ref L), some (.ref Ot), none] [.int (zI M Ot 0), .ref L] M v M' 0 0 := Ev.back 1 (gs_3 rfl rfl (gf_i hS.1 a_Ot qi_8_0 rfl)) H
  obtain ⟨N2, eN2⟩ : ∃ N, N = (wF M L 0 (zI M Ot 0)) := ⟨_, rfl⟩
  have hN2 : SQ N2 := by rw [eN2]; exact hS.kf
  have H : Ev none e 13 8 [some (.ref L), some (.ref Ot), none] [] N2 v M' 0 0 := by rw [eN2]; exact Ev.pfi rfl rfl rfl hS.1 a_L qi_8_0 H
  have HF := H
  subst eN2
  exact HF
theorem cpy_8 {e : Nat} {M M' : Mem} {v : Option Value} {L Ot : Nat} (hS : SQ M) (a_L : gNth sT L = some 8) (a_Ot : gNth sT Ot = some 8) (H : Ev none e 13 8 [some (.ref L), some (.ref Ot), none] [] M v M' 0 0) : Ev none e 13 16 [some (.ref L), some (.ref Ot), none] [] (wF M L 1 (zI M Ot 1)) v M' 0 0 := by
  have H : Ev none e 13 10 [some (.ref L), some (.ref Ot), none] [.ref Ot, .ref L] M v M' 0 0 := Ev.back 2 (fun n => rfl) H
  have H : Ev none e 13 13 [some (.ref L), some (.ref Ot), none] [.int (zI M Ot 1), .ref L] M v M' 0 0 := Ev.back 1 (gs_3 rfl rfl (gf_i hS.1 a_Ot qi_8_1 rfl)) H
  obtain ⟨N2, eN2⟩ : ∃ N, N = (wF M L 1 (zI M Ot 1)) := ⟨_, rfl⟩
  have hN2 : SQ N2 := by rw [eN2]; exact hS.kf
  have H : Ev none e 13 16 [some (.ref L), some (.ref Ot), none] [] N2 v M' 0 0 := by rw [eN2]; exact Ev.pfi rfl rfl rfl hS.1 a_L qi_8_1 H
  have HF := H
  subst eN2
  exact HF
theorem cpy_16 {e : Nat} {M M' : Mem} {v : Option Value} {L Ot : Nat} (hS : SQ M) (a_L : gNth sT L = some 8) (a_Ot : gNth sT Ot = some 8) (H : Ev none e 13 16 [some (.ref L), some (.ref Ot), none] [] M v M' 0 0) : Ev none e 13 32 [some (.ref L), some (.ref Ot), none] [] (wC M (Ot + 1) (L + 1)) v M' 0 0 := by
  have H : Ev none e 13 17 [some (.ref L), some (.ref Ot), none] [.ref Ot] M v M' 0 0 := Ev.back 1 (fun n => rfl) H
  have H : Ev none e 13 20 [some (.ref L), some (.ref Ot), none] [.ref (Ot + 1)] M v M' 0 0 := Ev.back 1 (gs_3 rfl rfl (gf_x hS.1 a_Ot qo_8 (fx_l2 hS a_Ot) rfl)) H
  have H : Ev none e 13 22 [some (.ref L), some (.ref Ot), none] [.ref L, .int 0, .ref (Ot + 1)] M v M' 0 0 := Ev.back 2 (fun n => rfl) H
  have H : Ev none e 13 25 [some (.ref L), some (.ref Ot), none] [.ref (L + 1), .int 0, .ref (Ot + 1)] M v M' 0 0 := Ev.back 1 (gs_3 rfl rfl (gf_x hS.1 a_L qo_8 (fx_l2 hS a_L) rfl)) H
  have H : Ev none e 13 29 [some (.ref L), some (.ref Ot), none] [.int 256, .int 0, .ref (L + 1), .int 0, .ref (Ot + 1)] M v M' 0 0 := Ev.back 2 (fun n => rfl) H
  have H := Ev.cpy rfl rfl (fun _ _ => rfl) hS.1 (fx_h2 a_Ot) qw_9 (fx_h2 a_L) qw_9 rfl H
  obtain ⟨N1, eN1⟩ : ∃ N, N = (wC M (Ot + 1) (L + 1)) := ⟨_, rfl⟩
  have hN1 : SQ N1 := by rw [eN1]; exact hS.kc (fx_h2 a_Ot) qw_9 (fx_h2 a_L) qw_9
  have H : Ev none e 13 32 [some (.ref L), some (.ref Ot), none] [] N1 v M' 0 0 := by rw [eN1]; exact H
  have HF := H
  subst eN1
  exact HF
theorem cpy_32 {e : Nat} {M M' : Mem} {v : Option Value} {L Ot : Nat} (hS : SQ M) (a_L : gNth sT L = some 8) (a_Ot : gNth sT Ot = some 8) (H : Ev none e 13 32 [some (.ref L), some (.ref Ot), none] [] M v M' 0 0) : Ev none e 13 48 [some (.ref L), some (.ref Ot), none] [] (wC M (Ot + 2) (L + 2)) v M' 0 0 := by
  have H : Ev none e 13 33 [some (.ref L), some (.ref Ot), none] [.ref Ot] M v M' 0 0 := Ev.back 1 (fun n => rfl) H
  have H : Ev none e 13 36 [some (.ref L), some (.ref Ot), none] [.ref (Ot + 2)] M v M' 0 0 := Ev.back 1 (gs_3 rfl rfl (gf_x hS.1 a_Ot qo_8 (fx_l3 hS a_Ot) rfl)) H
  have H : Ev none e 13 38 [some (.ref L), some (.ref Ot), none] [.ref L, .int 0, .ref (Ot + 2)] M v M' 0 0 := Ev.back 2 (fun n => rfl) H
  have H : Ev none e 13 41 [some (.ref L), some (.ref Ot), none] [.ref (L + 2), .int 0, .ref (Ot + 2)] M v M' 0 0 := Ev.back 1 (gs_3 rfl rfl (gf_x hS.1 a_L qo_8 (fx_l3 hS a_L) rfl)) H
  have H : Ev none e 13 45 [some (.ref L), some (.ref Ot), none] [.int 256, .int 0, .ref (L + 2), .int 0, .ref (Ot + 2)] M v M' 0 0 := Ev.back 2 (fun n => rfl) H
  have H := Ev.cpy rfl rfl (fun _ _ => rfl) hS.1 (fx_h3 a_Ot) qw_10 (fx_h3 a_L) qw_10 rfl H
  obtain ⟨N1, eN1⟩ : ∃ N, N = (wC M (Ot + 2) (L + 2)) := ⟨_, rfl⟩
  have hN1 : SQ N1 := by rw [eN1]; exact hS.kc (fx_h3 a_Ot) qw_10 (fx_h3 a_L) qw_10
  have H : Ev none e 13 48 [some (.ref L), some (.ref Ot), none] [] N1 v M' 0 0 := by rw [eN1]; exact H
  have HF := H
  subst eN1
  exact HF
theorem cpy_48 {e : Nat} {M M' : Mem} {v : Option Value} {L Ot : Nat} (hS : SQ M) (a_L : gNth sT L = some 8) (a_Ot : gNth sT Ot = some 8) (H : Ev none e 13 48 [some (.ref L), some (.ref Ot), none] [] M v M' 0 0) : Ev none e 13 64 [some (.ref L), some (.ref Ot), none] [] (wC M (Ot + 3) (L + 3)) v M' 0 0 := by
  have H : Ev none e 13 49 [some (.ref L), some (.ref Ot), none] [.ref Ot] M v M' 0 0 := Ev.back 1 (fun n => rfl) H
  have H : Ev none e 13 52 [some (.ref L), some (.ref Ot), none] [.ref (Ot + 3)] M v M' 0 0 := Ev.back 1 (gs_3 rfl rfl (gf_x hS.1 a_Ot qo_8 (fx_l4 hS a_Ot) rfl)) H
  have H : Ev none e 13 54 [some (.ref L), some (.ref Ot), none] [.ref L, .int 0, .ref (Ot + 3)] M v M' 0 0 := Ev.back 2 (fun n => rfl) H
  have H : Ev none e 13 57 [some (.ref L), some (.ref Ot), none] [.ref (L + 3), .int 0, .ref (Ot + 3)] M v M' 0 0 := Ev.back 1 (gs_3 rfl rfl (gf_x hS.1 a_L qo_8 (fx_l4 hS a_L) rfl)) H
  have H : Ev none e 13 61 [some (.ref L), some (.ref Ot), none] [.int 256, .int 0, .ref (L + 3), .int 0, .ref (Ot + 3)] M v M' 0 0 := Ev.back 2 (fun n => rfl) H
  have H := Ev.cpy rfl rfl (fun _ _ => rfl) hS.1 (fx_h4 a_Ot) qw_11 (fx_h4 a_L) qw_11 rfl H
  obtain ⟨N1, eN1⟩ : ∃ N, N = (wC M (Ot + 3) (L + 3)) := ⟨_, rfl⟩
  have hN1 : SQ N1 := by rw [eN1]; exact hS.kc (fx_h4 a_Ot) qw_11 (fx_h4 a_L) qw_11
  have H : Ev none e 13 64 [some (.ref L), some (.ref Ot), none] [] N1 v M' 0 0 := by rw [eN1]; exact H
  have HF := H
  subst eN1
  exact HF
theorem cpy_64 {e : Nat} {M M' : Mem} {v : Option Value} {L Ot : Nat} (hS : SQ M) (a_L : gNth sT L = some 8) (a_Ot : gNth sT Ot = some 8) (H : Ev none e 13 64 [some (.ref L), some (.ref Ot), none] [] M v M' 0 0) : Ev none e 13 80 [some (.ref L), some (.ref Ot), none] [] (wC M (Ot + 4) (L + 4)) v M' 0 0 := by
  have H : Ev none e 13 65 [some (.ref L), some (.ref Ot), none] [.ref Ot] M v M' 0 0 := Ev.back 1 (fun n => rfl) H
  have H : Ev none e 13 68 [some (.ref L), some (.ref Ot), none] [.ref (Ot + 4)] M v M' 0 0 := Ev.back 1 (gs_3 rfl rfl (gf_x hS.1 a_Ot qo_8 (fx_l5 hS a_Ot) rfl)) H
  have H : Ev none e 13 70 [some (.ref L), some (.ref Ot), none] [.ref L, .int 0, .ref (Ot + 4)] M v M' 0 0 := Ev.back 2 (fun n => rfl) H
  have H : Ev none e 13 73 [some (.ref L), some (.ref Ot), none] [.ref (L + 4), .int 0, .ref (Ot + 4)] M v M' 0 0 := Ev.back 1 (gs_3 rfl rfl (gf_x hS.1 a_L qo_8 (fx_l5 hS a_L) rfl)) H
  have H : Ev none e 13 77 [some (.ref L), some (.ref Ot), none] [.int 256, .int 0, .ref (L + 4), .int 0, .ref (Ot + 4)] M v M' 0 0 := Ev.back 2 (fun n => rfl) H
  have H := Ev.cpy rfl rfl (fun _ _ => rfl) hS.1 (fx_h5 a_Ot) qw_12 (fx_h5 a_L) qw_12 rfl H
  obtain ⟨N1, eN1⟩ : ∃ N, N = (wC M (Ot + 4) (L + 4)) := ⟨_, rfl⟩
  have hN1 : SQ N1 := by rw [eN1]; exact hS.kc (fx_h5 a_Ot) qw_12 (fx_h5 a_L) qw_12
  have H : Ev none e 13 80 [some (.ref L), some (.ref Ot), none] [] N1 v M' 0 0 := by rw [eN1]; exact H
  have HF := H
  subst eN1
  exact HF
theorem cpy_80 {e : Nat} {M M' : Mem} {v : Option Value} {L Ot : Nat} (hS : SQ M) (a_L : gNth sT L = some 8) (a_Ot : gNth sT Ot = some 8) (H : Ev none e 13 80 [some (.ref L), some (.ref Ot), none] [] M v M' 0 0) : Ev none e 13 96 [some (.ref L), some (.ref Ot), none] [] (wC M (Ot + 5) (L + 5)) v M' 0 0 := by
  have H : Ev none e 13 81 [some (.ref L), some (.ref Ot), none] [.ref Ot] M v M' 0 0 := Ev.back 1 (fun n => rfl) H
  have H : Ev none e 13 84 [some (.ref L), some (.ref Ot), none] [.ref (Ot + 5)] M v M' 0 0 := Ev.back 1 (gs_3 rfl rfl (gf_x hS.1 a_Ot qo_8 (fx_l6 hS a_Ot) rfl)) H
  have H : Ev none e 13 86 [some (.ref L), some (.ref Ot), none] [.ref L, .int 0, .ref (Ot + 5)] M v M' 0 0 := Ev.back 2 (fun n => rfl) H
  have H : Ev none e 13 89 [some (.ref L), some (.ref Ot), none] [.ref (L + 5), .int 0, .ref (Ot + 5)] M v M' 0 0 := Ev.back 1 (gs_3 rfl rfl (gf_x hS.1 a_L qo_8 (fx_l6 hS a_L) rfl)) H
  have H : Ev none e 13 93 [some (.ref L), some (.ref Ot), none] [.int 256, .int 0, .ref (L + 5), .int 0, .ref (Ot + 5)] M v M' 0 0 := Ev.back 2 (fun n => rfl) H
  have H := Ev.cpy rfl rfl (fun _ _ => rfl) hS.1 (fx_h6 a_Ot) qw_13 (fx_h6 a_L) qw_13 rfl H
  obtain ⟨N1, eN1⟩ : ∃ N, N = (wC M (Ot + 5) (L + 5)) := ⟨_, rfl⟩
  have hN1 : SQ N1 := by rw [eN1]; exact hS.kc (fx_h6 a_Ot) qw_13 (fx_h6 a_L) qw_13
  have H : Ev none e 13 96 [some (.ref L), some (.ref Ot), none] [] N1 v M' 0 0 := by rw [eN1]; exact H
  have HF := H
  subst eN1
  exact HF
theorem cpy_96 {e : Nat} {M M' : Mem} {v : Option Value} {L Ot : Nat} (hS : SQ M) (a_L : gNth sT L = some 8) (a_Ot : gNth sT Ot = some 8) (H : Ev none e 13 96 [some (.ref L), some (.ref Ot), none] [] M v M' 0 0) : Ev none e 13 112 [some (.ref L), some (.ref Ot), none] [] (wC M (Ot + 6) (L + 6)) v M' 0 0 := by
  have H : Ev none e 13 97 [some (.ref L), some (.ref Ot), none] [.ref Ot] M v M' 0 0 := Ev.back 1 (fun n => rfl) H
  have H : Ev none e 13 100 [some (.ref L), some (.ref Ot), none] [.ref (Ot + 6)] M v M' 0 0 := Ev.back 1 (gs_3 rfl rfl (gf_x hS.1 a_Ot qo_8 (fx_l7 hS a_Ot) rfl)) H
  have H : Ev none e 13 102 [some (.ref L), some (.ref Ot), none] [.ref L, .int 0, .ref (Ot + 6)] M v M' 0 0 := Ev.back 2 (fun n => rfl) H
  have H : Ev none e 13 105 [some (.ref L), some (.ref Ot), none] [.ref (L + 6), .int 0, .ref (Ot + 6)] M v M' 0 0 := Ev.back 1 (gs_3 rfl rfl (gf_x hS.1 a_L qo_8 (fx_l7 hS a_L) rfl)) H
  have H : Ev none e 13 109 [some (.ref L), some (.ref Ot), none] [.int 256, .int 0, .ref (L + 6), .int 0, .ref (Ot + 6)] M v M' 0 0 := Ev.back 2 (fun n => rfl) H
  have H := Ev.cpy rfl rfl (fun _ _ => rfl) hS.1 (fx_h7 a_Ot) qw_14 (fx_h7 a_L) qw_14 rfl H
  obtain ⟨N1, eN1⟩ : ∃ N, N = (wC M (Ot + 6) (L + 6)) := ⟨_, rfl⟩
  have hN1 : SQ N1 := by rw [eN1]; exact hS.kc (fx_h7 a_Ot) qw_14 (fx_h7 a_L) qw_14
  have H : Ev none e 13 112 [some (.ref L), some (.ref Ot), none] [] N1 v M' 0 0 := by rw [eN1]; exact H
  have HF := H
  subst eN1
  exact HF
theorem cpy_112 {e : Nat} {M M' : Mem} {v : Option Value} {L Ot : Nat} (hS : SQ M) (a_L : gNth sT L = some 8) (a_Ot : gNth sT Ot = some 8) (H : Ev none e 13 112 [some (.ref L), some (.ref Ot), none] [] M v M' 0 0) : Ev none e 13 128 [some (.ref L), some (.ref Ot), none] [] (wC M (Ot + 7) (L + 7)) v M' 0 0 := by
  have H : Ev none e 13 113 [some (.ref L), some (.ref Ot), none] [.ref Ot] M v M' 0 0 := Ev.back 1 (fun n => rfl) H
  have H : Ev none e 13 116 [some (.ref L), some (.ref Ot), none] [.ref (Ot + 7)] M v M' 0 0 := Ev.back 1 (gs_3 rfl rfl (gf_x hS.1 a_Ot qo_8 (fx_l8 hS a_Ot) rfl)) H
  have H : Ev none e 13 118 [some (.ref L), some (.ref Ot), none] [.ref L, .int 0, .ref (Ot + 7)] M v M' 0 0 := Ev.back 2 (fun n => rfl) H
  have H : Ev none e 13 121 [some (.ref L), some (.ref Ot), none] [.ref (L + 7), .int 0, .ref (Ot + 7)] M v M' 0 0 := Ev.back 1 (gs_3 rfl rfl (gf_x hS.1 a_L qo_8 (fx_l8 hS a_L) rfl)) H
  have H : Ev none e 13 125 [some (.ref L), some (.ref Ot), none] [.int 256, .int 0, .ref (L + 7), .int 0, .ref (Ot + 7)] M v M' 0 0 := Ev.back 2 (fun n => rfl) H
  have H := Ev.cpy rfl rfl (fun _ _ => rfl) hS.1 (fx_h8 a_Ot) qw_15 (fx_h8 a_L) qw_15 rfl H
  obtain ⟨N1, eN1⟩ : ∃ N, N = (wC M (Ot + 7) (L + 7)) := ⟨_, rfl⟩
  have hN1 : SQ N1 := by rw [eN1]; exact hS.kc (fx_h8 a_Ot) qw_15 (fx_h8 a_L) qw_15
  have H : Ev none e 13 128 [some (.ref L), some (.ref Ot), none] [] N1 v M' 0 0 := by rw [eN1]; exact H
  have HF := H
  subst eN1
  exact HF
theorem cpy_128 {e : Nat} {M M' : Mem} {v : Option Value} {L Ot : Nat} (hS : SQ M) (a_L : gNth sT L = some 8) (a_Ot : gNth sT Ot = some 8) (H : Ev none e 13 128 [some (.ref L), some (.ref Ot), none] [] M v M' 0 0) : Ev none e 13 144 [some (.ref L), some (.ref Ot), none] [] (wC M (Ot + 8) (L + 8)) v M' 0 0 := by
  have H : Ev none e 13 129 [some (.ref L), some (.ref Ot), none] [.ref Ot] M v M' 0 0 := Ev.back 1 (fun n => rfl) H
  have H : Ev none e 13 132 [some (.ref L), some (.ref Ot), none] [.ref (Ot + 8)] M v M' 0 0 := Ev.back 1 (gs_3 rfl rfl (gf_x hS.1 a_Ot qo_8 (fx_l9 hS a_Ot) rfl)) H
  have H : Ev none e 13 134 [some (.ref L), some (.ref Ot), none] [.ref L, .int 0, .ref (Ot + 8)] M v M' 0 0 := Ev.back 2 (fun n => rfl) H
  have H : Ev none e 13 137 [some (.ref L), some (.ref Ot), none] [.ref (L + 8), .int 0, .ref (Ot + 8)] M v M' 0 0 := Ev.back 1 (gs_3 rfl rfl (gf_x hS.1 a_L qo_8 (fx_l9 hS a_L) rfl)) H
  have H : Ev none e 13 141 [some (.ref L), some (.ref Ot), none] [.int 256, .int 0, .ref (L + 8), .int 0, .ref (Ot + 8)] M v M' 0 0 := Ev.back 2 (fun n => rfl) H
  have H := Ev.cpy rfl rfl (fun _ _ => rfl) hS.1 (fx_h9 a_Ot) qw_16 (fx_h9 a_L) qw_16 rfl H
  obtain ⟨N1, eN1⟩ : ∃ N, N = (wC M (Ot + 8) (L + 8)) := ⟨_, rfl⟩
  have hN1 : SQ N1 := by rw [eN1]; exact hS.kc (fx_h9 a_Ot) qw_16 (fx_h9 a_L) qw_16
  have H : Ev none e 13 144 [some (.ref L), some (.ref Ot), none] [] N1 v M' 0 0 := by rw [eN1]; exact H
  have HF := H
  subst eN1
  exact HF
theorem cpy_144 {e : Nat} {M M' : Mem} {v : Option Value} {L Ot : Nat} (hS : SQ M) (a_L : gNth sT L = some 8) (a_Ot : gNth sT Ot = some 8) (H : Ev none e 13 144 [some (.ref L), some (.ref Ot), none] [] M v M' 0 0) : Ev none e 13 159 [some (.ref L), some (.ref Ot), none] [] (wC M (Ot + 9) (L + 9)) v M' 0 0 := by
  have H : Ev none e 13 145 [some (.ref L), some (.ref Ot), none] [.ref Ot] M v M' 0 0 := Ev.back 1 (fun n => rfl) H
  have H : Ev none e 13 148 [some (.ref L), some (.ref Ot), none] [.ref (Ot + 9)] M v M' 0 0 := Ev.back 1 (gs_3 rfl rfl (gf_x hS.1 a_Ot qo_8 (fx_l10 hS a_Ot) rfl)) H
  have H : Ev none e 13 150 [some (.ref L), some (.ref Ot), none] [.ref L, .int 0, .ref (Ot + 9)] M v M' 0 0 := Ev.back 2 (fun n => rfl) H
  have H : Ev none e 13 153 [some (.ref L), some (.ref Ot), none] [.ref (L + 9), .int 0, .ref (Ot + 9)] M v M' 0 0 := Ev.back 1 (gs_3 rfl rfl (gf_x hS.1 a_L qo_8 (fx_l10 hS a_L) rfl)) H
  have H : Ev none e 13 156 [some (.ref L), some (.ref Ot), none] [.int 9, .int 0, .ref (L + 9), .int 0, .ref (Ot + 9)] M v M' 0 0 := Ev.back 2 (fun n => rfl) H
  have H := Ev.cpy rfl rfl (fun _ _ => rfl) hS.1 (fx_h10 a_Ot) qw_17 (fx_h10 a_L) qw_17 rfl H
  obtain ⟨N1, eN1⟩ : ∃ N, N = (wC M (Ot + 9) (L + 9)) := ⟨_, rfl⟩
  have hN1 : SQ N1 := by rw [eN1]; exact hS.kc (fx_h10 a_Ot) qw_17 (fx_h10 a_L) qw_17
  have H : Ev none e 13 159 [some (.ref L), some (.ref Ot), none] [] N1 v M' 0 0 := by rw [eN1]; exact H
  have HF := H
  subst eN1
  exact HF
theorem cpy_159 {e : Nat} {M M' : Mem} {v : Option Value} {L Ot : Nat} (hS : SQ M) (a_L : gNth sT L = some 8) (a_Ot : gNth sT Ot = some 8) (H : Ev none e 13 159 [some (.ref L), some (.ref Ot), none] [] M v M' 0 0) : Ev none e 13 167 [some (.ref L), some (.ref Ot), none] [] (wF M L 11 (zI M Ot 11)) v M' 0 0 := by
  have H : Ev none e 13 161 [some (.ref L), some (.ref Ot), none] [.ref Ot, .ref L] M v M' 0 0 := Ev.back 2 (fun n => rfl) H
  have H : Ev none e 13 164 [some (.ref L), some (.ref Ot), none] [.int (zI M Ot 11), .ref L] M v M' 0 0 := Ev.back 1 (gs_3 rfl rfl (gf_i hS.1 a_Ot qi_8_11 rfl)) H
  obtain ⟨N2, eN2⟩ : ∃ N, N = (wF M L 11 (zI M Ot 11)) := ⟨_, rfl⟩
  have hN2 : SQ N2 := by rw [eN2]; exact hS.kf
  have H : Ev none e 13 167 [some (.ref L), some (.ref Ot), none] [] N2 v M' 0 0 := by rw [eN2]; exact Ev.pfi rfl rfl rfl hS.1 a_L qi_8_11 H
  have HF := H
  subst eN2
  exact HF
theorem cpy_167 {e : Nat} {M M' : Mem} {v : Option Value} {L Ot : Nat} (hS : SQ M) (a_L : gNth sT L = some 8) (a_Ot : gNth sT Ot = some 8) (H : Ev none e 13 167 [some (.ref L), some (.ref Ot), none] [] M v M' 0 0) : Ev none e 13 177 [some (.ref L), some (.ref Ot), some (.int 0)] [] (wF M L 13 (zI M Ot 13)) v M' 0 0 := by
  have H : Ev none e 13 169 [some (.ref L), some (.ref Ot), none] [.ref Ot, .ref L] M v M' 0 0 := Ev.back 2 (fun n => rfl) H
  have H : Ev none e 13 172 [some (.ref L), some (.ref Ot), none] [.int (zI M Ot 13), .ref L] M v M' 0 0 := Ev.back 1 (gs_3 rfl rfl (gf_i hS.1 a_Ot qi_8_13 rfl)) H
  obtain ⟨N2, eN2⟩ : ∃ N, N = (wF M L 13 (zI M Ot 13)) := ⟨_, rfl⟩
  have hN2 : SQ N2 := by rw [eN2]; exact hS.kf
  have H : Ev none e 13 175 [some (.ref L), some (.ref Ot), none] [] N2 v M' 0 0 := by rw [eN2]; exact Ev.pfi rfl rfl rfl hS.1 a_L qi_8_13 H
  have H : Ev none e 13 177 [some (.ref L), some (.ref Ot), some (.int 0)] [] N2 v M' 0 0 := Ev.back 2 (fun n => rfl) H
  have HF := H
  subst eN2
  exact HF
theorem cpy_177 {e : Nat} {M M' : Mem} {v : Option Value} {k : Int32} {L Ot : Nat} (hS : SQ M) (a_L : gNth sT L = some 8) (a_Ot : gNth sT Ot = some 8) (H : Ev none e 13 177 [some (.ref L), some (.ref Ot), some (.int k)] [] M v M' 0 0) : ((zI M L 13) ≤ k ∧ Ev none e 13 206 [some (.ref L), some (.ref Ot), some (.int k)] [] M v M' 0 0) ∨ (¬ ((zI M L 13) ≤ k) ∧ (0 ≤ k.toInt ∧ k.toInt < 24) ∧ (0 ≤ k.toInt ∧ k.toInt < 24) ∧ (∃ e1 v1 M1, e = e1 + 1 ∧ Ev none e1 77 0 [some (.ref (oI M (L + 10) k)), some (.ref (oI M (Ot + 10) k))] [] M v1 M1 0 0 ∧ Ev none e 13 200 [some (.ref L), some (.ref Ot), some (.int k)] (v1.toList ++ []) M1 v M' 0 0)) := by
  have H : Ev none e 13 179 [some (.ref L), some (.ref Ot), some (.int k)] [.ref L, .int k] M v M' 0 0 := Ev.back 2 (fun n => rfl) H
  have H : Ev none e 13 182 [some (.ref L), some (.ref Ot), some (.int k)] [.int (zI M L 13), .int k] M v M' 0 0 := Ev.back 1 (gs_3 rfl rfl (gf_i hS.1 a_L qi_8_13 rfl)) H
  have H : Ev none e 13 (if (zI M L 13) ≤ k then 206 else 185) [some (.ref L), some (.ref Ot), some (.int k)] [] M v M' 0 0 := Ev.back 1 (fun n => rfl) H
  by_cases h1 : (zI M L 13) ≤ k
  · rw [if_pos h1] at H
    have HF := H
    exact Or.inl ⟨h1, HF⟩
  · rw [if_neg h1] at H
    have H : Ev none e 13 186 [some (.ref L), some (.ref Ot), some (.int k)] [.ref L] M v M' 0 0 := Ev.back 1 (fun n => rfl) H
    have H : Ev none e 13 189 [some (.ref L), some (.ref Ot), some (.int k)] [.ref (L + 10)] M v M' 0 0 := Ev.back 1 (gs_3 rfl rfl (gf_x hS.1 a_L qo_8 (fx_l12 hS a_L) rfl)) H
    have H : Ev none e 13 190 [some (.ref L), some (.ref Ot), some (.int k)] [.int k, .ref (L + 10)] M v M' 0 0 := Ev.back 1 (fun n => rfl) H
    obtain ⟨b2, H⟩ := Ev.aal rfl rfl hS.1 (fx_h12 a_L) qz_18 H
    have H : Ev none e 13 191 [some (.ref L), some (.ref Ot), some (.int k)] [.ref (oI M (L + 10) k)] M v M' 0 0 := H
    have H : Ev none e 13 192 [some (.ref L), some (.ref Ot), some (.int k)] [.ref Ot, .ref (oI M (L + 10) k)] M v M' 0 0 := Ev.back 1 (fun n => rfl) H
    have H : Ev none e 13 195 [some (.ref L), some (.ref Ot), some (.int k)] [.ref (Ot + 10), .ref (oI M (L + 10) k)] M v M' 0 0 := Ev.back 1 (gs_3 rfl rfl (gf_x hS.1 a_Ot qo_8 (fx_l12 hS a_Ot) rfl)) H
    have H : Ev none e 13 196 [some (.ref L), some (.ref Ot), some (.int k)] [.int k, .ref (Ot + 10), .ref (oI M (L + 10) k)] M v M' 0 0 := Ev.back 1 (fun n => rfl) H
    obtain ⟨b3, H⟩ := Ev.aal rfl rfl hS.1 (fx_h12 a_Ot) qz_18 H
    have H : Ev none e 13 197 [some (.ref L), some (.ref Ot), some (.int k)] [.ref (oI M (Ot + 10) k), .ref (oI M (L + 10) k)] M v M' 0 0 := H
    obtain ⟨e1, rfl⟩ := Ev.dpos rfl rfl H
    obtain ⟨vK4, MK4, K4, H⟩ := Ev.callb (fun n_ => gs_7 rfl rfl (show gCal (.invokevirtual 106) 1 (.ref (oI M (Ot + 10) k) :: .ref (oI M (L + 10) k) :: []) M = some (.inr (77, [some (.ref (oI M (L + 10) k)), some (.ref (oI M (Ot + 10) k))], [])) from by show @cond (Option ((List Value × Mem) ⊕ (Nat × Lo × List Value))) (true && gRecv M (.ref (oI M (L + 10) k)) 9 && gRoom [] && true) (some (.inr (77, [some (.ref (oI M (L + 10) k)), some (.ref (oI M (Ot + 10) k))], []))) none = _; rw [recv_s hS.1 b2.2 qo_20]; rfl)) H
    have K4 : Ev none e1 77 0 [some (.ref (oI M (L + 10) k)), some (.ref (oI M (Ot + 10) k))] [] M vK4 MK4 0 0 := K4
    have HF := H
    exact Or.inr (⟨h1, b2.1, b3.1, ⟨e1, vK4, MK4, rfl, K4, HF⟩⟩)
theorem cpy_200 {e : Nat} {M M' : Mem} {v : Option Value} {k : Int32} {L Ot : Nat} (hS : SQ M) (a_L : gNth sT L = some 8) (a_Ot : gNth sT Ot = some 8) (H : Ev none e 13 200 [some (.ref L), some (.ref Ot), some (.int k)] [] M v M' 0 0) : Ev none e 13 177 [some (.ref L), some (.ref Ot), some (.int (k + 1))] [] M v M' 0 0 := by
  have H : Ev none e 13 177 [some (.ref L), some (.ref Ot), some (.int (k + 1))] [] M v M' 0 0 := Ev.back 2 (fun n => rfl) H
  have HF := H
  exact HF
theorem cpy_206 {e : Nat} {M M' : Mem} {v : Option Value} {k : Int32} {L Ot : Nat} (hS : SQ M) (a_L : gNth sT L = some 8) (a_Ot : gNth sT Ot = some 8) (H : Ev none e 13 206 [some (.ref L), some (.ref Ot), some (.int k)] [] M v M' 0 0) : Ev none e 13 216 [some (.ref L), some (.ref Ot), some (.int 0)] [] (wF M L 15 (zI M Ot 15)) v M' 0 0 := by
  have H : Ev none e 13 208 [some (.ref L), some (.ref Ot), some (.int k)] [.ref Ot, .ref L] M v M' 0 0 := Ev.back 2 (fun n => rfl) H
  have H : Ev none e 13 211 [some (.ref L), some (.ref Ot), some (.int k)] [.int (zI M Ot 15), .ref L] M v M' 0 0 := Ev.back 1 (gs_3 rfl rfl (gf_i hS.1 a_Ot qi_8_15 rfl)) H
  obtain ⟨N2, eN2⟩ : ∃ N, N = (wF M L 15 (zI M Ot 15)) := ⟨_, rfl⟩
  have hN2 : SQ N2 := by rw [eN2]; exact hS.kf
  have H : Ev none e 13 214 [some (.ref L), some (.ref Ot), some (.int k)] [] N2 v M' 0 0 := by rw [eN2]; exact Ev.pfi rfl rfl rfl hS.1 a_L qi_8_15 H
  have H : Ev none e 13 216 [some (.ref L), some (.ref Ot), some (.int 0)] [] N2 v M' 0 0 := Ev.back 2 (fun n => rfl) H
  have HF := H
  subst eN2
  exact HF
theorem cpy_216 {e : Nat} {M M' : Mem} {v : Option Value} {k : Int32} {L Ot : Nat} (hS : SQ M) (a_L : gNth sT L = some 8) (a_Ot : gNth sT Ot = some 8) (H : Ev none e 13 216 [some (.ref L), some (.ref Ot), some (.int k)] [] M v M' 0 0) : ((zI M L 15) ≤ k ∧ Ev none e 13 245 [some (.ref L), some (.ref Ot), some (.int k)] [] M v M' 0 0) ∨ (¬ ((zI M L 15) ≤ k) ∧ (0 ≤ k.toInt ∧ k.toInt < 60) ∧ (0 ≤ k.toInt ∧ k.toInt < 60) ∧ (∃ e1 v1 M1, e = e1 + 1 ∧ Ev none e1 75 0 [some (.ref (oI M (L + 11) k)), some (.ref (oI M (Ot + 11) k))] [] M v1 M1 0 0 ∧ Ev none e 13 239 [some (.ref L), some (.ref Ot), some (.int k)] (v1.toList ++ []) M1 v M' 0 0)) := by
  have H : Ev none e 13 218 [some (.ref L), some (.ref Ot), some (.int k)] [.ref L, .int k] M v M' 0 0 := Ev.back 2 (fun n => rfl) H
  have H : Ev none e 13 221 [some (.ref L), some (.ref Ot), some (.int k)] [.int (zI M L 15), .int k] M v M' 0 0 := Ev.back 1 (gs_3 rfl rfl (gf_i hS.1 a_L qi_8_15 rfl)) H
  have H : Ev none e 13 (if (zI M L 15) ≤ k then 245 else 224) [some (.ref L), some (.ref Ot), some (.int k)] [] M v M' 0 0 := Ev.back 1 (fun n => rfl) H
  by_cases h1 : (zI M L 15) ≤ k
  · rw [if_pos h1] at H
    have HF := H
    exact Or.inl ⟨h1, HF⟩
  · rw [if_neg h1] at H
    have H : Ev none e 13 225 [some (.ref L), some (.ref Ot), some (.int k)] [.ref L] M v M' 0 0 := Ev.back 1 (fun n => rfl) H
    have H : Ev none e 13 228 [some (.ref L), some (.ref Ot), some (.int k)] [.ref (L + 11)] M v M' 0 0 := Ev.back 1 (gs_3 rfl rfl (gf_x hS.1 a_L qo_8 (fx_l14 hS a_L) rfl)) H
    have H : Ev none e 13 229 [some (.ref L), some (.ref Ot), some (.int k)] [.int k, .ref (L + 11)] M v M' 0 0 := Ev.back 1 (fun n => rfl) H
    obtain ⟨b2, H⟩ := Ev.aal rfl rfl hS.1 (fx_h14 a_L) qz_19 H
    have H : Ev none e 13 230 [some (.ref L), some (.ref Ot), some (.int k)] [.ref (oI M (L + 11) k)] M v M' 0 0 := H
    have H : Ev none e 13 231 [some (.ref L), some (.ref Ot), some (.int k)] [.ref Ot, .ref (oI M (L + 11) k)] M v M' 0 0 := Ev.back 1 (fun n => rfl) H
    have H : Ev none e 13 234 [some (.ref L), some (.ref Ot), some (.int k)] [.ref (Ot + 11), .ref (oI M (L + 11) k)] M v M' 0 0 := Ev.back 1 (gs_3 rfl rfl (gf_x hS.1 a_Ot qo_8 (fx_l14 hS a_Ot) rfl)) H
    have H : Ev none e 13 235 [some (.ref L), some (.ref Ot), some (.int k)] [.int k, .ref (Ot + 11), .ref (oI M (L + 11) k)] M v M' 0 0 := Ev.back 1 (fun n => rfl) H
    obtain ⟨b3, H⟩ := Ev.aal rfl rfl hS.1 (fx_h14 a_Ot) qz_19 H
    have H : Ev none e 13 236 [some (.ref L), some (.ref Ot), some (.int k)] [.ref (oI M (Ot + 11) k), .ref (oI M (L + 11) k)] M v M' 0 0 := H
    obtain ⟨e1, rfl⟩ := Ev.dpos rfl rfl H
    obtain ⟨vK4, MK4, K4, H⟩ := Ev.callb (fun n_ => gs_7 rfl rfl (show gCal (.invokevirtual 110) 1 (.ref (oI M (Ot + 11) k) :: .ref (oI M (L + 11) k) :: []) M = some (.inr (75, [some (.ref (oI M (L + 11) k)), some (.ref (oI M (Ot + 11) k))], [])) from by show @cond (Option ((List Value × Mem) ⊕ (Nat × Lo × List Value))) (true && gRecv M (.ref (oI M (L + 11) k)) 8 && gRoom [] && true) (some (.inr (75, [some (.ref (oI M (L + 11) k)), some (.ref (oI M (Ot + 11) k))], []))) none = _; rw [recv_s hS.1 b2.2 qo_21]; rfl)) H
    have K4 : Ev none e1 75 0 [some (.ref (oI M (L + 11) k)), some (.ref (oI M (Ot + 11) k))] [] M vK4 MK4 0 0 := K4
    have HF := H
    exact Or.inr (⟨h1, b2.1, b3.1, ⟨e1, vK4, MK4, rfl, K4, HF⟩⟩)
theorem cpy_239 {e : Nat} {M M' : Mem} {v : Option Value} {k : Int32} {L Ot : Nat} (hS : SQ M) (a_L : gNth sT L = some 8) (a_Ot : gNth sT Ot = some 8) (H : Ev none e 13 239 [some (.ref L), some (.ref Ot), some (.int k)] [] M v M' 0 0) : Ev none e 13 216 [some (.ref L), some (.ref Ot), some (.int (k + 1))] [] M v M' 0 0 := by
  have H : Ev none e 13 216 [some (.ref L), some (.ref Ot), some (.int (k + 1))] [] M v M' 0 0 := Ev.back 2 (fun n => rfl) H
  have HF := H
  exact HF
theorem cpy_245 {e : Nat} {M M' : Mem} {v : Option Value} {k : Int32} {L Ot : Nat} (hS : SQ M) (a_L : gNth sT L = some 8) (a_Ot : gNth sT Ot = some 8) (H : Ev none e 13 245 [some (.ref L), some (.ref Ot), some (.int k)] [] M v M' 0 0) : Ev none e 13 253 [some (.ref L), some (.ref Ot), some (.int k)] [] (wF M L 16 (zI M Ot 16)) v M' 0 0 := by
  have H : Ev none e 13 247 [some (.ref L), some (.ref Ot), some (.int k)] [.ref Ot, .ref L] M v M' 0 0 := Ev.back 2 (fun n => rfl) H
  have H : Ev none e 13 250 [some (.ref L), some (.ref Ot), some (.int k)] [.int (zI M Ot 16), .ref L] M v M' 0 0 := Ev.back 1 (gs_3 rfl rfl (gf_i hS.1 a_Ot qi_8_16 rfl)) H
  obtain ⟨N2, eN2⟩ : ∃ N, N = (wF M L 16 (zI M Ot 16)) := ⟨_, rfl⟩
  have hN2 : SQ N2 := by rw [eN2]; exact hS.kf
  have H : Ev none e 13 253 [some (.ref L), some (.ref Ot), some (.int k)] [] N2 v M' 0 0 := by rw [eN2]; exact Ev.pfi rfl rfl rfl hS.1 a_L qi_8_16 H
  have HF := H
  subst eN2
  exact HF
theorem cpy_253 {e : Nat} {M M' : Mem} {v : Option Value} {k : Int32} {L Ot : Nat} (hS : SQ M) (a_L : gNth sT L = some 8) (a_Ot : gNth sT Ot = some 8) (H : Ev none e 13 253 [some (.ref L), some (.ref Ot), some (.int k)] [] M v M' 0 0) : Ev none e 13 261 [some (.ref L), some (.ref Ot), some (.int k)] [] (wF M L 17 (zI M Ot 17)) v M' 0 0 := by
  have H : Ev none e 13 255 [some (.ref L), some (.ref Ot), some (.int k)] [.ref Ot, .ref L] M v M' 0 0 := Ev.back 2 (fun n => rfl) H
  have H : Ev none e 13 258 [some (.ref L), some (.ref Ot), some (.int k)] [.int (zI M Ot 17), .ref L] M v M' 0 0 := Ev.back 1 (gs_3 rfl rfl (gf_i hS.1 a_Ot qi_8_17 rfl)) H
  obtain ⟨N2, eN2⟩ : ∃ N, N = (wF M L 17 (zI M Ot 17)) := ⟨_, rfl⟩
  have hN2 : SQ N2 := by rw [eN2]; exact hS.kf
  have H : Ev none e 13 261 [some (.ref L), some (.ref Ot), some (.int k)] [] N2 v M' 0 0 := by rw [eN2]; exact Ev.pfi rfl rfl rfl hS.1 a_L qi_8_17 H
  have HF := H
  subst eN2
  exact HF
theorem cpy_261 {e : Nat} {M M' : Mem} {v : Option Value} {k : Int32} {L Ot : Nat} (hS : SQ M) (a_L : gNth sT L = some 8) (a_Ot : gNth sT Ot = some 8) (H : Ev none e 13 261 [some (.ref L), some (.ref Ot), some (.int k)] [] M v M' 0 0) : Ev none e 13 269 [some (.ref L), some (.ref Ot), some (.int k)] [] (wF M L 18 (zI M Ot 18)) v M' 0 0 := by
  have H : Ev none e 13 263 [some (.ref L), some (.ref Ot), some (.int k)] [.ref Ot, .ref L] M v M' 0 0 := Ev.back 2 (fun n => rfl) H
  have H : Ev none e 13 266 [some (.ref L), some (.ref Ot), some (.int k)] [.int (zI M Ot 18), .ref L] M v M' 0 0 := Ev.back 1 (gs_3 rfl rfl (gf_i hS.1 a_Ot qi_8_18 rfl)) H
  obtain ⟨N2, eN2⟩ : ∃ N, N = (wF M L 18 (zI M Ot 18)) := ⟨_, rfl⟩
  have hN2 : SQ N2 := by rw [eN2]; exact hS.kf
  have H : Ev none e 13 269 [some (.ref L), some (.ref Ot), some (.int k)] [] N2 v M' 0 0 := by rw [eN2]; exact Ev.pfi rfl rfl rfl hS.1 a_L qi_8_18 H
  have HF := H
  subst eN2
  exact HF
theorem cpy_269 {e : Nat} {M M' : Mem} {v : Option Value} {k : Int32} {L Ot : Nat} (hS : SQ M) (a_L : gNth sT L = some 8) (a_Ot : gNth sT Ot = some 8) (H : Ev none e 13 269 [some (.ref L), some (.ref Ot), some (.int k)] [] M v M' 0 0) : v = none ∧ M' = (wF M L 19 (zI M Ot 19)) := by
  have H : Ev none e 13 271 [some (.ref L), some (.ref Ot), some (.int k)] [.ref Ot, .ref L] M v M' 0 0 := Ev.back 2 (fun n => rfl) H
  have H : Ev none e 13 274 [some (.ref L), some (.ref Ot), some (.int k)] [.int (zI M Ot 19), .ref L] M v M' 0 0 := Ev.back 1 (gs_3 rfl rfl (gf_i hS.1 a_Ot qi_8_19 rfl)) H
  obtain ⟨N2, eN2⟩ : ∃ N, N = (wF M L 19 (zI M Ot 19)) := ⟨_, rfl⟩
  have hN2 : SQ N2 := by rw [eN2]; exact hS.kf
  have H : Ev none e 13 277 [some (.ref L), some (.ref Ot), some (.int k)] [] N2 v M' 0 0 := by rw [eN2]; exact Ev.pfi rfl rfl rfl hS.1 a_L qi_8_19 H
  obtain ⟨z1, z2⟩ := Ev.retb (fun n => rfl) H
  subst eN2
  exact ⟨z1, z2⟩
theorem cpx_0 {e : Nat} {M M' : Mem} {v : Option Value} {x y : Nat} (hS : SQ M) (a_x : gNth sT x = some 20) (a_y : gNth sT y = some 20) (H : Ev none e 77 0 [some (.ref x), some (.ref y)] [] M v M' 0 0) : v = none ∧ M' = (wF (wF (wF (wF (wF (wF M x 0 (zI M y 0)) x 1 (zI M y 1)) x 2 (zI M y 2)) x 3 (zI M y 3)) x 4 (zI M y 4)) x 5 (zI M y 5)) := by
  have H : Ev none e 77 2 [some (.ref x), some (.ref y)] [.ref y, .ref x] M v M' 0 0 := Ev.back 2 (fun n => rfl) H
  have H : Ev none e 77 5 [some (.ref x), some (.ref y)] [.int (zI M y 0), .ref x] M v M' 0 0 := Ev.back 1 (gs_3 rfl rfl (gf_i hS.1 a_y qi_20_0 rfl)) H
  obtain ⟨N2, eN2⟩ : ∃ N, N = (wF M x 0 (zI M y 0)) := ⟨_, rfl⟩
  have hN2 : SQ N2 := by rw [eN2]; exact hS.kf
  have H : Ev none e 77 8 [some (.ref x), some (.ref y)] [] N2 v M' 0 0 := by rw [eN2]; exact Ev.pfi rfl rfl rfl hS.1 a_x qi_20_0 H
  have H : Ev none e 77 10 [some (.ref x), some (.ref y)] [.ref y, .ref x] N2 v M' 0 0 := Ev.back 2 (fun n => rfl) H
  have H : Ev none e 77 13 [some (.ref x), some (.ref y)] [.int (zI N2 y 1), .ref x] N2 v M' 0 0 := Ev.back 1 (gs_3 rfl rfl (gf_i hN2.1 a_y qi_20_1 rfl)) H
  rw [show zI N2 y 1 = zI M y 1 from by rw [eN2]; exact fI_wF_ne (fun q => absurd q.2 (by decide))] at H
  obtain ⟨N4, eN4⟩ : ∃ N, N = (wF N2 x 1 (zI M y 1)) := ⟨_, rfl⟩
  have hN4 : SQ N4 := by rw [eN4]; exact hN2.kf
  have H : Ev none e 77 16 [some (.ref x), some (.ref y)] [] N4 v M' 0 0 := by rw [eN4]; exact Ev.pfi rfl rfl rfl hN2.1 a_x qi_20_1 H
  have H : Ev none e 77 18 [some (.ref x), some (.ref y)] [.ref y, .ref x] N4 v M' 0 0 := Ev.back 2 (fun n => rfl) H
  have H : Ev none e 77 21 [some (.ref x), some (.ref y)] [.int (zI N4 y 2), .ref x] N4 v M' 0 0 := Ev.back 1 (gs_3 rfl rfl (gf_i hN4.1 a_y qi_20_2 rfl)) H
  rw [(show zI N4 y 2 = zI N2 y 2 from by rw [eN4]; exact fI_wF_ne (fun q => absurd q.2 (by decide))).trans (show zI N2 y 2 = zI M y 2 from by rw [eN2]; exact fI_wF_ne (fun q => absurd q.2 (by decide)))] at H
  obtain ⟨N6, eN6⟩ : ∃ N, N = (wF N4 x 2 (zI M y 2)) := ⟨_, rfl⟩
  have hN6 : SQ N6 := by rw [eN6]; exact hN4.kf
  have H : Ev none e 77 24 [some (.ref x), some (.ref y)] [] N6 v M' 0 0 := by rw [eN6]; exact Ev.pfi rfl rfl rfl hN4.1 a_x qi_20_2 H
  have H : Ev none e 77 26 [some (.ref x), some (.ref y)] [.ref y, .ref x] N6 v M' 0 0 := Ev.back 2 (fun n => rfl) H
  have H : Ev none e 77 29 [some (.ref x), some (.ref y)] [.int (zI N6 y 3), .ref x] N6 v M' 0 0 := Ev.back 1 (gs_3 rfl rfl (gf_i hN6.1 a_y qi_20_3 rfl)) H
  rw [((show zI N6 y 3 = zI N4 y 3 from by rw [eN6]; exact fI_wF_ne (fun q => absurd q.2 (by decide))).trans (show zI N4 y 3 = zI N2 y 3 from by rw [eN4]; exact fI_wF_ne (fun q => absurd q.2 (by decide)))).trans (show zI N2 y 3 = zI M y 3 from by rw [eN2]; exact fI_wF_ne (fun q => absurd q.2 (by decide)))] at H
  obtain ⟨N8, eN8⟩ : ∃ N, N = (wF N6 x 3 (zI M y 3)) := ⟨_, rfl⟩
  have hN8 : SQ N8 := by rw [eN8]; exact hN6.kf
  have H : Ev none e 77 32 [some (.ref x), some (.ref y)] [] N8 v M' 0 0 := by rw [eN8]; exact Ev.pfi rfl rfl rfl hN6.1 a_x qi_20_3 H
  have H : Ev none e 77 34 [some (.ref x), some (.ref y)] [.ref y, .ref x] N8 v M' 0 0 := Ev.back 2 (fun n => rfl) H
  have H : Ev none e 77 37 [some (.ref x), some (.ref y)] [.int (zI N8 y 4), .ref x] N8 v M' 0 0 := Ev.back 1 (gs_3 rfl rfl (gf_i hN8.1 a_y qi_20_4 rfl)) H
  rw [(((show zI N8 y 4 = zI N6 y 4 from by rw [eN8]; exact fI_wF_ne (fun q => absurd q.2 (by decide))).trans (show zI N6 y 4 = zI N4 y 4 from by rw [eN6]; exact fI_wF_ne (fun q => absurd q.2 (by decide)))).trans (show zI N4 y 4 = zI N2 y 4 from by rw [eN4]; exact fI_wF_ne (fun q => absurd q.2 (by decide)))).trans (show zI N2 y 4 = zI M y 4 from by rw [eN2]; exact fI_wF_ne (fun q => absurd q.2 (by decide)))] at H
  obtain ⟨N10, eN10⟩ : ∃ N, N = (wF N8 x 4 (zI M y 4)) := ⟨_, rfl⟩
  have hN10 : SQ N10 := by rw [eN10]; exact hN8.kf
  have H : Ev none e 77 40 [some (.ref x), some (.ref y)] [] N10 v M' 0 0 := by rw [eN10]; exact Ev.pfi rfl rfl rfl hN8.1 a_x qi_20_4 H
  have H : Ev none e 77 42 [some (.ref x), some (.ref y)] [.ref y, .ref x] N10 v M' 0 0 := Ev.back 2 (fun n => rfl) H
  have H : Ev none e 77 45 [some (.ref x), some (.ref y)] [.int (zI N10 y 5), .ref x] N10 v M' 0 0 := Ev.back 1 (gs_3 rfl rfl (gf_i hN10.1 a_y qi_20_5 rfl)) H
  rw [((((show zI N10 y 5 = zI N8 y 5 from by rw [eN10]; exact fI_wF_ne (fun q => absurd q.2 (by decide))).trans (show zI N8 y 5 = zI N6 y 5 from by rw [eN8]; exact fI_wF_ne (fun q => absurd q.2 (by decide)))).trans (show zI N6 y 5 = zI N4 y 5 from by rw [eN6]; exact fI_wF_ne (fun q => absurd q.2 (by decide)))).trans (show zI N4 y 5 = zI N2 y 5 from by rw [eN4]; exact fI_wF_ne (fun q => absurd q.2 (by decide)))).trans (show zI N2 y 5 = zI M y 5 from by rw [eN2]; exact fI_wF_ne (fun q => absurd q.2 (by decide)))] at H
  obtain ⟨N12, eN12⟩ : ∃ N, N = (wF N10 x 5 (zI M y 5)) := ⟨_, rfl⟩
  have hN12 : SQ N12 := by rw [eN12]; exact hN10.kf
  have H : Ev none e 77 48 [some (.ref x), some (.ref y)] [] N12 v M' 0 0 := by rw [eN12]; exact Ev.pfi rfl rfl rfl hN10.1 a_x qi_20_5 H
  obtain ⟨z1, z2⟩ := Ev.retb (fun n => rfl) H
  subst eN2 eN4 eN6 eN8 eN10 eN12
  exact ⟨z1, z2⟩
theorem cpb_0 {e : Nat} {M M' : Mem} {v : Option Value} {b d : Nat} (hS : SQ M) (a_b : gNth sT b = some 21) (a_d : gNth sT d = some 21) (H : Ev none e 75 0 [some (.ref b), some (.ref d)] [] M v M' 0 0) : v = none ∧ M' = (wF (wF (wF (wF (wF M b 0 (zI M d 0)) b 1 (zI M d 1)) b 2 (zI M d 2)) b 3 (zI M d 3)) b 4 (zI M d 4)) := by
  have H : Ev none e 75 2 [some (.ref b), some (.ref d)] [.ref d, .ref b] M v M' 0 0 := Ev.back 2 (fun n => rfl) H
  have H : Ev none e 75 5 [some (.ref b), some (.ref d)] [.int (zI M d 0), .ref b] M v M' 0 0 := Ev.back 1 (gs_3 rfl rfl (gf_i hS.1 a_d qi_21_0 rfl)) H
  obtain ⟨N2, eN2⟩ : ∃ N, N = (wF M b 0 (zI M d 0)) := ⟨_, rfl⟩
  have hN2 : SQ N2 := by rw [eN2]; exact hS.kf
  have H : Ev none e 75 8 [some (.ref b), some (.ref d)] [] N2 v M' 0 0 := by rw [eN2]; exact Ev.pfi rfl rfl rfl hS.1 a_b qi_21_0 H
  have H : Ev none e 75 10 [some (.ref b), some (.ref d)] [.ref d, .ref b] N2 v M' 0 0 := Ev.back 2 (fun n => rfl) H
  have H : Ev none e 75 13 [some (.ref b), some (.ref d)] [.int (zI N2 d 1), .ref b] N2 v M' 0 0 := Ev.back 1 (gs_3 rfl rfl (gf_i hN2.1 a_d qi_21_1 rfl)) H
  rw [show zI N2 d 1 = zI M d 1 from by rw [eN2]; exact fI_wF_ne (fun q => absurd q.2 (by decide))] at H
  obtain ⟨N4, eN4⟩ : ∃ N, N = (wF N2 b 1 (zI M d 1)) := ⟨_, rfl⟩
  have hN4 : SQ N4 := by rw [eN4]; exact hN2.kf
  have H : Ev none e 75 16 [some (.ref b), some (.ref d)] [] N4 v M' 0 0 := by rw [eN4]; exact Ev.pfi rfl rfl rfl hN2.1 a_b qi_21_1 H
  have H : Ev none e 75 18 [some (.ref b), some (.ref d)] [.ref d, .ref b] N4 v M' 0 0 := Ev.back 2 (fun n => rfl) H
  have H : Ev none e 75 21 [some (.ref b), some (.ref d)] [.int (zI N4 d 2), .ref b] N4 v M' 0 0 := Ev.back 1 (gs_3 rfl rfl (gf_i hN4.1 a_d qi_21_2 rfl)) H
  rw [(show zI N4 d 2 = zI N2 d 2 from by rw [eN4]; exact fI_wF_ne (fun q => absurd q.2 (by decide))).trans (show zI N2 d 2 = zI M d 2 from by rw [eN2]; exact fI_wF_ne (fun q => absurd q.2 (by decide)))] at H
  obtain ⟨N6, eN6⟩ : ∃ N, N = (wF N4 b 2 (zI M d 2)) := ⟨_, rfl⟩
  have hN6 : SQ N6 := by rw [eN6]; exact hN4.kf
  have H : Ev none e 75 24 [some (.ref b), some (.ref d)] [] N6 v M' 0 0 := by rw [eN6]; exact Ev.pfi rfl rfl rfl hN4.1 a_b qi_21_2 H
  have H : Ev none e 75 26 [some (.ref b), some (.ref d)] [.ref d, .ref b] N6 v M' 0 0 := Ev.back 2 (fun n => rfl) H
  have H : Ev none e 75 29 [some (.ref b), some (.ref d)] [.int (zI N6 d 3), .ref b] N6 v M' 0 0 := Ev.back 1 (gs_3 rfl rfl (gf_i hN6.1 a_d qi_21_3 rfl)) H
  rw [((show zI N6 d 3 = zI N4 d 3 from by rw [eN6]; exact fI_wF_ne (fun q => absurd q.2 (by decide))).trans (show zI N4 d 3 = zI N2 d 3 from by rw [eN4]; exact fI_wF_ne (fun q => absurd q.2 (by decide)))).trans (show zI N2 d 3 = zI M d 3 from by rw [eN2]; exact fI_wF_ne (fun q => absurd q.2 (by decide)))] at H
  obtain ⟨N8, eN8⟩ : ∃ N, N = (wF N6 b 3 (zI M d 3)) := ⟨_, rfl⟩
  have hN8 : SQ N8 := by rw [eN8]; exact hN6.kf
  have H : Ev none e 75 32 [some (.ref b), some (.ref d)] [] N8 v M' 0 0 := by rw [eN8]; exact Ev.pfi rfl rfl rfl hN6.1 a_b qi_21_3 H
  have H : Ev none e 75 34 [some (.ref b), some (.ref d)] [.ref d, .ref b] N8 v M' 0 0 := Ev.back 2 (fun n => rfl) H
  have H : Ev none e 75 37 [some (.ref b), some (.ref d)] [.int (zI N8 d 4), .ref b] N8 v M' 0 0 := Ev.back 1 (gs_3 rfl rfl (gf_i hN8.1 a_d qi_21_4 rfl)) H
  rw [(((show zI N8 d 4 = zI N6 d 4 from by rw [eN8]; exact fI_wF_ne (fun q => absurd q.2 (by decide))).trans (show zI N6 d 4 = zI N4 d 4 from by rw [eN6]; exact fI_wF_ne (fun q => absurd q.2 (by decide)))).trans (show zI N4 d 4 = zI N2 d 4 from by rw [eN4]; exact fI_wF_ne (fun q => absurd q.2 (by decide)))).trans (show zI N2 d 4 = zI M d 4 from by rw [eN2]; exact fI_wF_ne (fun q => absurd q.2 (by decide)))] at H
  obtain ⟨N10, eN10⟩ : ∃ N, N = (wF N8 b 4 (zI M d 4)) := ⟨_, rfl⟩
  have hN10 : SQ N10 := by rw [eN10]; exact hN8.kf
  have H : Ev none e 75 40 [some (.ref b), some (.ref d)] [] N10 v M' 0 0 := by rw [eN10]; exact Ev.pfi rfl rfl rfl hN8.1 a_b qi_21_4 H
  obtain ⟨z1, z2⟩ := Ev.retb (fun n => rfl) H
  subst eN2 eN4 eN6 eN8 eN10
  exact ⟨z1, z2⟩
theorem rnw_0 {e : Nat} {M M' : Mem} {v : Option Value} {wi de : Int32} {L : Nat} (hS : SQ M) (a_L : gNth sT L = some 8) (H : Ev none e 12 0 [some (.ref L), some (.int wi), some (.int de), some (.ref 1), none, none] [] M v M' 0 0) : Ev none e 12 13 [some (.ref L), some (.int wi), some (.int de), some (.ref 1), some (.int 0), none] [] (wF (wF M L 0 wi) L 1 de) v M' 0 0 := by
  have H : Ev none e 12 2 [some (.ref L), some (.int wi), some (.int de), some (.ref 1), none, none] [.int wi, .ref L] M v M' 0 0 := Ev.back 2 (fun n => rfl) H
  obtain ⟨N2, eN2⟩ : ∃ N, N = (wF M L 0 wi) := ⟨_, rfl⟩
  have hN2 : SQ N2 := by rw [eN2]; exact hS.kf
  have H : Ev none e 12 5 [some (.ref L), some (.int wi), some (.int de), some (.ref 1), none, none] [] N2 v M' 0 0 := by rw [eN2]; exact Ev.pfi rfl rfl rfl hS.1 a_L qi_8_0 H
  have H : Ev none e 12 7 [some (.ref L), some (.int wi), some (.int de), some (.ref 1), none, none] [.int de, .ref L] N2 v M' 0 0 := Ev.back 2 (fun n => rfl) H
  obtain ⟨N4, eN4⟩ : ∃ N, N = (wF N2 L 1 de) := ⟨_, rfl⟩
  have hN4 : SQ N4 := by rw [eN4]; exact hN2.kf
  have H : Ev none e 12 10 [some (.ref L), some (.int wi), some (.int de), some (.ref 1), none, none] [] N4 v M' 0 0 := by rw [eN4]; exact Ev.pfi rfl rfl rfl hN2.1 a_L qi_8_1 H
  have H : Ev none e 12 13 [some (.ref L), some (.int wi), some (.int de), some (.ref 1), some (.int 0), none] [] N4 v M' 0 0 := Ev.back 2 (fun n => rfl) H
  have HF := H
  subst eN2 eN4
  exact HF
theorem rnw_13 {e : Nat} {M M' : Mem} {v : Option Value} {wi de k : Int32} {L : Nat} {c5 : Option Value} (hS : SQ M) (a_L : gNth sT L = some 8) (H : Ev none e 12 13 [some (.ref L), some (.int wi), some (.int de), some (.ref 1), some (.int k), c5] [] M v M' 0 0) : (((zI M L 0) * (zI M L 1)) ≤ k ∧ Ev none e 12 86 [some (.ref L), some (.int wi), some (.int de), some (.ref 1), some (.int k), c5] [] M v M' 0 0) ∨ (¬ (((zI M L 0) * (zI M L 1)) ≤ k) ∧ 256 ≤ k ∧ Ev none e 12 86 [some (.ref L), some (.int wi), some (.int de), some (.ref 1), some (.int k), c5] [] M v M' 0 0) ∨ (¬ (((zI M L 0) * (zI M L 1)) ≤ k) ∧ ¬ (256 ≤ k) ∧ (0 ≤ k.toInt ∧ k.toInt < 440) ∧ (0 ≤ k.toInt ∧ k.toInt < 256) ∧ (0 ≤ k.toInt ∧ k.toInt < 256) ∧ (0 ≤ k.toInt ∧ k.toInt < 256) ∧ Ev none e 12 13 [some (.ref L), some (.int wi), some (.int de), some (.ref 1), some (.int (k + 1)), some (.int (rI M 2 k))] [] (wI (wI (wI M (L + 1) k.toNatClampNeg ((rI M 2 k) &&& 7)) (L + 2) k.toNatClampNeg (((rI M 2 k) >>> ((3 : Int32) &&& 31)) &&& 1)) (L + 3) k.toNatClampNeg ((rI M 2 k) >>> ((4 : Int32) &&& 31))) v M' 0 0) := by
  have H : Ev none e 12 16 [some (.ref L), some (.int wi), some (.int de), some (.ref 1), some (.int k), c5] [.ref L, .int k] M v M' 0 0 := Ev.back 2 (fun n => rfl) H
  have H : Ev none e 12 19 [some (.ref L), some (.int wi), some (.int de), some (.ref 1), some (.int k), c5] [.int (zI M L 0), .int k] M v M' 0 0 := Ev.back 1 (gs_3 rfl rfl (gf_i hS.1 a_L qi_8_0 rfl)) H
  have H : Ev none e 12 20 [some (.ref L), some (.int wi), some (.int de), some (.ref 1), some (.int k), c5] [.ref L, .int (zI M L 0), .int k] M v M' 0 0 := Ev.back 1 (fun n => rfl) H
  have H : Ev none e 12 23 [some (.ref L), some (.int wi), some (.int de), some (.ref 1), some (.int k), c5] [.int (zI M L 1), .int (zI M L 0), .int k] M v M' 0 0 := Ev.back 1 (gs_3 rfl rfl (gf_i hS.1 a_L qi_8_1 rfl)) H
  have H : Ev none e 12 (if ((zI M L 0) * (zI M L 1)) ≤ k then 86 else 27) [some (.ref L), some (.int wi), some (.int de), some (.ref 1), some (.int k), c5] [] M v M' 0 0 := Ev.back 2 (fun n => rfl) H
  by_cases h1 : ((zI M L 0) * (zI M L 1)) ≤ k
  · rw [if_pos h1] at H
    have HF := H
    exact Or.inl ⟨h1, HF⟩
  · rw [if_neg h1] at H
    have H : Ev none e 12 (if 256 ≤ k then 86 else 35) [some (.ref L), some (.int wi), some (.int de), some (.ref 1), some (.int k), c5] [] M v M' 0 0 := Ev.back 3 (fun n => rfl) H
    by_cases h2 : 256 ≤ k
    · rw [if_pos h2] at H
      have HF := H
      exact Or.inr (Or.inl ⟨h1, h2, HF⟩)
    · rw [if_neg h2] at H
      have H : Ev none e 12 36 [some (.ref L), some (.int wi), some (.int de), some (.ref 1), some (.int k), c5] [.ref 1] M v M' 0 0 := Ev.back 1 (fun n => rfl) H
      have H : Ev none e 12 39 [some (.ref L), some (.int wi), some (.int de), some (.ref 1), some (.int k), c5] [.ref 2] M v M' 0 0 := Ev.back 1 (gs_3 rfl rfl (gf_u hS.1 qa_1 qr_1_0 qu_2 rfl)) H
      have H : Ev none e 12 41 [some (.ref L), some (.int wi), some (.int de), some (.ref 1), some (.int k), c5] [.int k, .ref 2] M v M' 0 0 := Ev.back 1 (fun n => rfl) H
      obtain ⟨b3, H⟩ := Ev.ial rfl rfl hS.1 qa_2 qw_2 H
      have H : Ev none e 12 42 [some (.ref L), some (.int wi), some (.int de), some (.ref 1), some (.int k), c5] [.int (rI M 2 k)] M v M' 0 0 := H
      have H : Ev none e 12 45 [some (.ref L), some (.int wi), some (.int de), some (.ref 1), some (.int k), some (.int (rI M 2 k))] [.ref L] M v M' 0 0 := Ev.back 2 (fun n => rfl) H
      have H : Ev none e 12 48 [some (.ref L), some (.int wi), some (.int de), some (.ref 1), some (.int k), some (.int (rI M 2 k))] [.ref (L + 1)] M v M' 0 0 := Ev.back 1 (gs_3 rfl rfl (gf_x hS.1 a_L qo_8 (fx_l2 hS a_L) rfl)) H
      have H : Ev none e 12 55 [some (.ref L), some (.int wi), some (.int de), some (.ref 1), some (.int k), some (.int (rI M 2 k))] [.int ((rI M 2 k) &&& 7), .int k, .ref (L + 1)] M v M' 0 0 := Ev.back 4 (fun n => rfl) H
      obtain ⟨b4, H⟩ := Ev.ias rfl rfl hS.1 (fx_h2 a_L) qw_9 H
      obtain ⟨N5, eN5⟩ : ∃ N, N = (wI M (L + 1) k.toNatClampNeg ((rI M 2 k) &&& 7)) := ⟨_, rfl⟩
      have hN5 : SQ N5 := by rw [eN5]; exact hS.ki
      have H : Ev none e 12 56 [some (.ref L), some (.int wi), some (.int de), some (.ref 1), some (.int k), some (.int (rI M 2 k))] [] N5 v M' 0 0 := by rw [eN5]; exact H
      have H : Ev none e 12 57 [some (.ref L), some (.int wi), some (.int de), some (.ref 1), some (.int k), some (.int (rI M 2 k))] [.ref L] N5 v M' 0 0 := Ev.back 1 (fun n => rfl) H
      have H : Ev none e 12 60 [some (.ref L), some (.int wi), some (.int de), some (.ref 1), some (.int k), some (.int (rI M 2 k))] [.ref (L + 2)] N5 v M' 0 0 := Ev.back 1 (gs_3 rfl rfl (gf_x hN5.1 a_L qo_8 (fx_l3 hN5 a_L) rfl)) H
      have H : Ev none e 12 68 [some (.ref L), some (.int wi), some (.int de), some (.ref 1), some (.int k), some (.int (rI M 2 k))] [.int (((rI M 2 k) >>> ((3 : Int32) &&& 31)) &&& 1), .int k, .ref (L + 2)] N5 v M' 0 0 := Ev.back 6 (fun n => rfl) H
      obtain ⟨b6, H⟩ := Ev.ias rfl rfl hN5.1 (fx_h3 a_L) qw_10 H
      obtain ⟨N7, eN7⟩ : ∃ N, N = (wI N5 (L + 2) k.toNatClampNeg (((rI M 2 k) >>> ((3 : Int32) &&& 31)) &&& 1)) := ⟨_, rfl⟩
      have hN7 : SQ N7 := by rw [eN7]; exact hN5.ki
      have H : Ev none e 12 69 [some (.ref L), some (.int wi), some (.int de), some (.ref 1), some (.int k), some (.int (rI M 2 k))] [] N7 v M' 0 0 := by rw [eN7]; exact H
      have H : Ev none e 12 70 [some (.ref L), some (.int wi), some (.int de), some (.ref 1), some (.int k), some (.int (rI M 2 k))] [.ref L] N7 v M' 0 0 := Ev.back 1 (fun n => rfl) H
      have H : Ev none e 12 73 [some (.ref L), some (.int wi), some (.int de), some (.ref 1), some (.int k), some (.int (rI M 2 k))] [.ref (L + 3)] N7 v M' 0 0 := Ev.back 1 (gs_3 rfl rfl (gf_x hN7.1 a_L qo_8 (fx_l4 hN7 a_L) rfl)) H
      have H : Ev none e 12 79 [some (.ref L), some (.int wi), some (.int de), some (.ref 1), some (.int k), some (.int (rI M 2 k))] [.int ((rI M 2 k) >>> ((4 : Int32) &&& 31)), .int k, .ref (L + 3)] N7 v M' 0 0 := Ev.back 4 (fun n => rfl) H
      obtain ⟨b8, H⟩ := Ev.ias rfl rfl hN7.1 (fx_h4 a_L) qw_11 H
      obtain ⟨N9, eN9⟩ : ∃ N, N = (wI N7 (L + 3) k.toNatClampNeg ((rI M 2 k) >>> ((4 : Int32) &&& 31))) := ⟨_, rfl⟩
      have hN9 : SQ N9 := by rw [eN9]; exact hN7.ki
      have H : Ev none e 12 80 [some (.ref L), some (.int wi), some (.int de), some (.ref 1), some (.int k), some (.int (rI M 2 k))] [] N9 v M' 0 0 := by rw [eN9]; exact H
      have H : Ev none e 12 13 [some (.ref L), some (.int wi), some (.int de), some (.ref 1), some (.int (k + 1)), some (.int (rI M 2 k))] [] N9 v M' 0 0 := Ev.back 2 (fun n => rfl) H
      have HF := H
      subst eN5 eN7 eN9
      exact Or.inr (Or.inr (⟨h1, h2, b3, b4, b6, b8, HF⟩))
theorem rnw_86 {e : Nat} {M M' : Mem} {v : Option Value} {wi de k : Int32} {L : Nat} {c5 : Option Value} (hS : SQ M) (a_L : gNth sT L = some 8) (H : Ev none e 12 86 [some (.ref L), some (.int wi), some (.int de), some (.ref 1), some (.int k), c5] [] M v M' 0 0) : v = none ∧ M' = (wF (wF (wF (wF (wF (wF (wF (wA (wA (wA (wA (wA M (L + 4) 0) (L + 5) 0) (L + 6) 0) (L + 7) 0) (L + 8) 0) L 11 0) L 13 0) L 15 0) L 16 0) L 17 0) L 18 0) L 19 0) := by
  have H : Ev none e 12 87 [some (.ref L), some (.int wi), some (.int de), some (.ref 1), some (.int k), c5] [.ref L] M v M' 0 0 := Ev.back 1 (fun n => rfl) H
  have H : Ev none e 12 90 [some (.ref L), some (.int wi), some (.int de), some (.ref 1), some (.int k), c5] [.ref (L + 4)] M v M' 0 0 := Ev.back 1 (gs_3 rfl rfl (gf_x hS.1 a_L qo_8 (fx_l5 hS a_L) rfl)) H
  have H : Ev none e 12 91 [some (.ref L), some (.int wi), some (.int de), some (.ref 1), some (.int k), c5] [.int 0, .ref (L + 4)] M v M' 0 0 := Ev.back 1 (fun n => rfl) H
  have H := Ev.fil rfl rfl (fun _ _ => rfl) hS.1 (fx_h5 a_L) qw_12 H
  obtain ⟨N1, eN1⟩ : ∃ N, N = (wA M (L + 4) 0) := ⟨_, rfl⟩
  have hN1 : SQ N1 := by rw [eN1]; exact hS.ka
  have H : Ev none e 12 94 [some (.ref L), some (.int wi), some (.int de), some (.ref 1), some (.int k), c5] [] N1 v M' 0 0 := by rw [eN1]; exact H
  have H : Ev none e 12 95 [some (.ref L), some (.int wi), some (.int de), some (.ref 1), some (.int k), c5] [.ref L] N1 v M' 0 0 := Ev.back 1 (fun n => rfl) H
  have H : Ev none e 12 98 [some (.ref L), some (.int wi), some (.int de), some (.ref 1), some (.int k), c5] [.ref (L + 5)] N1 v M' 0 0 := Ev.back 1 (gs_3 rfl rfl (gf_x hN1.1 a_L qo_8 (fx_l6 hN1 a_L) rfl)) H
  have H : Ev none e 12 99 [some (.ref L), some (.int wi), some (.int de), some (.ref 1), some (.int k), c5] [.int 0, .ref (L + 5)] N1 v M' 0 0 := Ev.back 1 (fun n => rfl) H
  have H := Ev.fil rfl rfl (fun _ _ => rfl) hN1.1 (fx_h6 a_L) qw_13 H
  obtain ⟨N2, eN2⟩ : ∃ N, N = (wA N1 (L + 5) 0) := ⟨_, rfl⟩
  have hN2 : SQ N2 := by rw [eN2]; exact hN1.ka
  have H : Ev none e 12 102 [some (.ref L), some (.int wi), some (.int de), some (.ref 1), some (.int k), c5] [] N2 v M' 0 0 := by rw [eN2]; exact H
  have H : Ev none e 12 103 [some (.ref L), some (.int wi), some (.int de), some (.ref 1), some (.int k), c5] [.ref L] N2 v M' 0 0 := Ev.back 1 (fun n => rfl) H
  have H : Ev none e 12 106 [some (.ref L), some (.int wi), some (.int de), some (.ref 1), some (.int k), c5] [.ref (L + 6)] N2 v M' 0 0 := Ev.back 1 (gs_3 rfl rfl (gf_x hN2.1 a_L qo_8 (fx_l7 hN2 a_L) rfl)) H
  have H : Ev none e 12 107 [some (.ref L), some (.int wi), some (.int de), some (.ref 1), some (.int k), c5] [.int 0, .ref (L + 6)] N2 v M' 0 0 := Ev.back 1 (fun n => rfl) H
  have H := Ev.fil rfl rfl (fun _ _ => rfl) hN2.1 (fx_h7 a_L) qw_14 H
  obtain ⟨N3, eN3⟩ : ∃ N, N = (wA N2 (L + 6) 0) := ⟨_, rfl⟩
  have hN3 : SQ N3 := by rw [eN3]; exact hN2.ka
  have H : Ev none e 12 110 [some (.ref L), some (.int wi), some (.int de), some (.ref 1), some (.int k), c5] [] N3 v M' 0 0 := by rw [eN3]; exact H
  have H : Ev none e 12 111 [some (.ref L), some (.int wi), some (.int de), some (.ref 1), some (.int k), c5] [.ref L] N3 v M' 0 0 := Ev.back 1 (fun n => rfl) H
  have H : Ev none e 12 114 [some (.ref L), some (.int wi), some (.int de), some (.ref 1), some (.int k), c5] [.ref (L + 7)] N3 v M' 0 0 := Ev.back 1 (gs_3 rfl rfl (gf_x hN3.1 a_L qo_8 (fx_l8 hN3 a_L) rfl)) H
  have H : Ev none e 12 115 [some (.ref L), some (.int wi), some (.int de), some (.ref 1), some (.int k), c5] [.int 0, .ref (L + 7)] N3 v M' 0 0 := Ev.back 1 (fun n => rfl) H
  have H := Ev.fil rfl rfl (fun _ _ => rfl) hN3.1 (fx_h8 a_L) qw_15 H
  obtain ⟨N4, eN4⟩ : ∃ N, N = (wA N3 (L + 7) 0) := ⟨_, rfl⟩
  have hN4 : SQ N4 := by rw [eN4]; exact hN3.ka
  have H : Ev none e 12 118 [some (.ref L), some (.int wi), some (.int de), some (.ref 1), some (.int k), c5] [] N4 v M' 0 0 := by rw [eN4]; exact H
  have H : Ev none e 12 119 [some (.ref L), some (.int wi), some (.int de), some (.ref 1), some (.int k), c5] [.ref L] N4 v M' 0 0 := Ev.back 1 (fun n => rfl) H
  have H : Ev none e 12 122 [some (.ref L), some (.int wi), some (.int de), some (.ref 1), some (.int k), c5] [.ref (L + 8)] N4 v M' 0 0 := Ev.back 1 (gs_3 rfl rfl (gf_x hN4.1 a_L qo_8 (fx_l9 hN4 a_L) rfl)) H
  have H : Ev none e 12 123 [some (.ref L), some (.int wi), some (.int de), some (.ref 1), some (.int k), c5] [.int 0, .ref (L + 8)] N4 v M' 0 0 := Ev.back 1 (fun n => rfl) H
  have H := Ev.fil rfl rfl (fun _ _ => rfl) hN4.1 (fx_h9 a_L) qw_16 H
  obtain ⟨N5, eN5⟩ : ∃ N, N = (wA N4 (L + 8) 0) := ⟨_, rfl⟩
  have hN5 : SQ N5 := by rw [eN5]; exact hN4.ka
  have H : Ev none e 12 126 [some (.ref L), some (.int wi), some (.int de), some (.ref 1), some (.int k), c5] [] N5 v M' 0 0 := by rw [eN5]; exact H
  have H : Ev none e 12 128 [some (.ref L), some (.int wi), some (.int de), some (.ref 1), some (.int k), c5] [.int 0, .ref L] N5 v M' 0 0 := Ev.back 2 (fun n => rfl) H
  obtain ⟨N7, eN7⟩ : ∃ N, N = (wF N5 L 11 0) := ⟨_, rfl⟩
  have hN7 : SQ N7 := by rw [eN7]; exact hN5.kf
  have H : Ev none e 12 131 [some (.ref L), some (.int wi), some (.int de), some (.ref 1), some (.int k), c5] [] N7 v M' 0 0 := by rw [eN7]; exact Ev.pfi rfl rfl rfl hN5.1 a_L qi_8_11 H
  have H : Ev none e 12 133 [some (.ref L), some (.int wi), some (.int de), some (.ref 1), some (.int k), c5] [.int 0, .ref L] N7 v M' 0 0 := Ev.back 2 (fun n => rfl) H
  obtain ⟨N9, eN9⟩ : ∃ N, N = (wF N7 L 13 0) := ⟨_, rfl⟩
  have hN9 : SQ N9 := by rw [eN9]; exact hN7.kf
  have H : Ev none e 12 136 [some (.ref L), some (.int wi), some (.int de), some (.ref 1), some (.int k), c5] [] N9 v M' 0 0 := by rw [eN9]; exact Ev.pfi rfl rfl rfl hN7.1 a_L qi_8_13 H
  have H : Ev none e 12 138 [some (.ref L), some (.int wi), some (.int de), some (.ref 1), some (.int k), c5] [.int 0, .ref L] N9 v M' 0 0 := Ev.back 2 (fun n => rfl) H
  obtain ⟨N11, eN11⟩ : ∃ N, N = (wF N9 L 15 0) := ⟨_, rfl⟩
  have hN11 : SQ N11 := by rw [eN11]; exact hN9.kf
  have H : Ev none e 12 141 [some (.ref L), some (.int wi), some (.int de), some (.ref 1), some (.int k), c5] [] N11 v M' 0 0 := by rw [eN11]; exact Ev.pfi rfl rfl rfl hN9.1 a_L qi_8_15 H
  have H : Ev none e 12 143 [some (.ref L), some (.int wi), some (.int de), some (.ref 1), some (.int k), c5] [.int 0, .ref L] N11 v M' 0 0 := Ev.back 2 (fun n => rfl) H
  obtain ⟨N13, eN13⟩ : ∃ N, N = (wF N11 L 16 0) := ⟨_, rfl⟩
  have hN13 : SQ N13 := by rw [eN13]; exact hN11.kf
  have H : Ev none e 12 146 [some (.ref L), some (.int wi), some (.int de), some (.ref 1), some (.int k), c5] [] N13 v M' 0 0 := by rw [eN13]; exact Ev.pfi rfl rfl rfl hN11.1 a_L qi_8_16 H
  have H : Ev none e 12 148 [some (.ref L), some (.int wi), some (.int de), some (.ref 1), some (.int k), c5] [.int 0, .ref L] N13 v M' 0 0 := Ev.back 2 (fun n => rfl) H
  obtain ⟨N15, eN15⟩ : ∃ N, N = (wF N13 L 17 0) := ⟨_, rfl⟩
  have hN15 : SQ N15 := by rw [eN15]; exact hN13.kf
  have H : Ev none e 12 151 [some (.ref L), some (.int wi), some (.int de), some (.ref 1), some (.int k), c5] [] N15 v M' 0 0 := by rw [eN15]; exact Ev.pfi rfl rfl rfl hN13.1 a_L qi_8_17 H
  have H : Ev none e 12 153 [some (.ref L), some (.int wi), some (.int de), some (.ref 1), some (.int k), c5] [.int 0, .ref L] N15 v M' 0 0 := Ev.back 2 (fun n => rfl) H
  obtain ⟨N17, eN17⟩ : ∃ N, N = (wF N15 L 18 0) := ⟨_, rfl⟩
  have hN17 : SQ N17 := by rw [eN17]; exact hN15.kf
  have H : Ev none e 12 156 [some (.ref L), some (.int wi), some (.int de), some (.ref 1), some (.int k), c5] [] N17 v M' 0 0 := by rw [eN17]; exact Ev.pfi rfl rfl rfl hN15.1 a_L qi_8_18 H
  have H : Ev none e 12 158 [some (.ref L), some (.int wi), some (.int de), some (.ref 1), some (.int k), c5] [.int 0, .ref L] N17 v M' 0 0 := Ev.back 2 (fun n => rfl) H
  obtain ⟨N19, eN19⟩ : ∃ N, N = (wF N17 L 19 0) := ⟨_, rfl⟩
  have hN19 : SQ N19 := by rw [eN19]; exact hN17.kf
  have H : Ev none e 12 161 [some (.ref L), some (.int wi), some (.int de), some (.ref 1), some (.int k), c5] [] N19 v M' 0 0 := by rw [eN19]; exact Ev.pfi rfl rfl rfl hN17.1 a_L qi_8_19 H
  obtain ⟨z1, z2⟩ := Ev.retb (fun n => rfl) H
  subst eN1 eN2 eN3 eN4 eN5 eN7 eN9 eN11 eN13 eN15 eN17 eN19
  exact ⟨z1, z2⟩
