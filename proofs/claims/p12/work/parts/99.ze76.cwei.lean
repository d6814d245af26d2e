/-! THE CLASS'S walking: weigh, choose: pieces (made by gwal2.py) -/
noncomputable def G_4 (M : Mem) (c : Int32) (go : Int32) : Int32 := (10 * (if (if 0 ≤ ((rI M 106 c) - (rI M 106 go)) then ((rI M 106 c) - (rI M 106 go)) else 0 - ((rI M 106 c) - (rI M 106 go))) < (if 0 ≤ ((rI M 107 c) - (rI M 107 go)) then ((rI M 107 c) - (rI M 107 go)) else 0 - ((rI M 107 c) - (rI M 107 go))) then (if 0 ≤ ((rI M 107 c) - (rI M 107 go)) then ((rI M 107 c) - (rI M 107 go)) else 0 - ((rI M 107 c) - (rI M 107 go))) else (if 0 ≤ ((rI M 106 c) - (rI M 106 go)) then ((rI M 106 c) - (rI M 106 go)) else 0 - ((rI M 106 c) - (rI M 106 go))))) + (4 * (if (if 0 ≤ ((rI M 107 c) - (rI M 107 go)) then ((rI M 107 c) - (rI M 107 go)) else 0 - ((rI M 107 c) - (rI M 107 go))) < (if 0 ≤ ((rI M 106 c) - (rI M 106 go)) then ((rI M 106 c) - (rI M 106 go)) else 0 - ((rI M 106 c) - (rI M 106 go))) then (if 0 ≤ ((rI M 107 c) - (rI M 107 go)) then ((rI M 107 c) - (rI M 107 go)) else 0 - ((rI M 107 c) - (rI M 107 go))) else (if 0 ≤ ((rI M 106 c) - (rI M 106 go)) then ((rI M 106 c) - (rI M 106 go)) else 0 - ((rI M 106 c) - (rI M 106 go)))))
theorem g_4 {e : Nat} {M M' : Mem} {v : Option Value} {c go : Int32} (hS : SQ M) (H : Ev none e 4 0 [some (.ref 105), some (.int c), some (.int go), none, none] [] M v M' 0 0) : v = some (.int (G_4 M c go)) ∧ M' = M := by
  unfold G_4
  have H : Ev none e 4 1 [some (.ref 105), some (.int c), some (.int go), none, none] [.ref 105] M v M' 0 0 := Ev.back 1 (fun n => rfl) H
  have H : Ev none e 4 4 [some (.ref 105), some (.int c), some (.int go), none, none] [.ref 106] M v M' 0 0 := Ev.back 1 (gs_3 rfl rfl (gf_u hS.1 qa_105 qr_23_0 qu_24 rfl)) H
  have H : Ev none e 4 5 [some (.ref 105), some (.int c), some (.int go), none, none] [.int c, .ref 106] M v M' 0 0 := Ev.back 1 (fun n => rfl) H
  obtain ⟨b1, H⟩ := Ev.ial rfl rfl hS.1 qa_106 qw_24 H
  have H : Ev none e 4 6 [some (.ref 105), some (.int c), some (.int go), none, none] [.int (rI M 106 c)] M v M' 0 0 := H
  have H : Ev none e 4 7 [some (.ref 105), some (.int c), some (.int go), none, none] [.ref 105, .int (rI M 106 c)] M v M' 0 0 := Ev.back 1 (fun n => rfl) H
  have H : Ev none e 4 10 [some (.ref 105), some (.int c), some (.int go), none, none] [.ref 106, .int (rI M 106 c)] M v M' 0 0 := Ev.back 1 (gs_3 rfl rfl (gf_u hS.1 qa_105 qr_23_0 qu_24 rfl)) H
  have H : Ev none e 4 11 [some (.ref 105), some (.int c), some (.int go), none, none] [.int go, .ref 106, .int (rI M 106 c)] M v M' 0 0 := Ev.back 1 (fun n => rfl) H
  obtain ⟨b2, H⟩ := Ev.ial rfl rfl hS.1 qa_106 qw_24 H
  have H : Ev none e 4 12 [some (.ref 105), some (.int c), some (.int go), none, none] [.int (rI M 106 go), .int (rI M 106 c)] M v M' 0 0 := H
  have H : Ev none e 4 13 [some (.ref 105), some (.int c), some (.int go), none, none] [.int ((rI M 106 c) - (rI M 106 go))] M v M' 0 0 := Ev.back 1 (fun n => rfl) H
  obtain ⟨e1, rfl⟩ := Ev.dpos rfl rfl H
  have H : Ev none (e1 + 1) 4 18 [some (.ref 105), some (.int c), some (.int go), some (.int (if 0 ≤ ((rI M 106 c) - (rI M 106 go)) then ((rI M 106 c) - (rI M 106 go)) else 0 - ((rI M 106 c) - (rI M 106 go)))), none] [.ref 105] M v M' 0 0 := Ev.back 3 (fun n => rfl) H
  have H : Ev none (e1 + 1) 4 21 [some (.ref 105), some (.int c), some (.int go), some (.int (if 0 ≤ ((rI M 106 c) - (rI M 106 go)) then ((rI M 106 c) - (rI M 106 go)) else 0 - ((rI M 106 c) - (rI M 106 go)))), none] [.ref 107] M v M' 0 0 := Ev.back 1 (gs_3 rfl rfl (gf_u hS.1 qa_105 qr_23_1 qu_25 rfl)) H
  have H : Ev none (e1 + 1) 4 22 [some (.ref 105), some (.int c), some (.int go), some (.int (if 0 ≤ ((rI M 106 c) - (rI M 106 go)) then ((rI M 106 c) - (rI M 106 go)) else 0 - ((rI M 106 c) - (rI M 106 go)))), none] [.int c, .ref 107] M v M' 0 0 := Ev.back 1 (fun n => rfl) H
  obtain ⟨b3, H⟩ := Ev.ial rfl rfl hS.1 qa_107 qw_25 H
  have H : Ev none (e1 + 1) 4 23 [some (.ref 105), some (.int c), some (.int go), some (.int (if 0 ≤ ((rI M 106 c) - (rI M 106 go)) then ((rI M 106 c) - (rI M 106 go)) else 0 - ((rI M 106 c) - (rI M 106 go)))), none] [.int (rI M 107 c)] M v M' 0 0 := H
  have H : Ev none (e1 + 1) 4 24 [some (.ref 105), some (.int c), some (.int go), some (.int (if 0 ≤ ((rI M 106 c) - (rI M 106 go)) then ((rI M 106 c) - (rI M 106 go)) else 0 - ((rI M 106 c) - (rI M 106 go)))), none] [.ref 105, .int (rI M 107 c)] M v M' 0 0 := Ev.back 1 (fun n => rfl) H
  have H : Ev none (e1 + 1) 4 27 [some (.ref 105), some (.int c), some (.int go), some (.int (if 0 ≤ ((rI M 106 c) - (rI M 106 go)) then ((rI M 106 c) - (rI M 106 go)) else 0 - ((rI M 106 c) - (rI M 106 go)))), none] [.ref 107, .int (rI M 107 c)] M v M' 0 0 := Ev.back 1 (gs_3 rfl rfl (gf_u hS.1 qa_105 qr_23_1 qu_25 rfl)) H
  have H : Ev none (e1 + 1) 4 28 [some (.ref 105), some (.int c), some (.int go), some (.int (if 0 ≤ ((rI M 106 c) - (rI M 106 go)) then ((rI M 106 c) - (rI M 106 go)) else 0 - ((rI M 106 c) - (rI M 106 go)))), none] [.int go, .ref 107, .int (rI M 107 c)] M v M' 0 0 := Ev.back 1 (fun n => rfl) H
  obtain ⟨b4, H⟩ := Ev.ial rfl rfl hS.1 qa_107 qw_25 H
  have H : Ev none (e1 + 1) 4 29 [some (.ref 105), some (.int c), some (.int go), some (.int (if 0 ≤ ((rI M 106 c) - (rI M 106 go)) then ((rI M 106 c) - (rI M 106 go)) else 0 - ((rI M 106 c) - (rI M 106 go)))), none] [.int (rI M 107 go), .int (rI M 107 c)] M v M' 0 0 := H
  have H : Ev none (e1 + 1) 4 53 [some (.ref 105), some (.int c), some (.int go), some (.int (if 0 ≤ ((rI M 106 c) - (rI M 106 go)) then ((rI M 106 c) - (rI M 106 go)) else 0 - ((rI M 106 c) - (rI M 106 go)))), some (.int (if 0 ≤ ((rI M 107 c) - (rI M 107 go)) then ((rI M 107 c) - (rI M 107 go)) else 0 - ((rI M 107 c) - (rI M 107 go))))] [.int ((10 * (if (if 0 ≤ ((rI M 106 c) - (rI M 106 go)) then ((rI M 106 c) - (rI M 106 go)) else 0 - ((rI M 106 c) - (rI M 106 go))) < (if 0 ≤ ((rI M 107 c) - (rI M 107 go)) then ((rI M 107 c) - (rI M 107 go)) else 0 - ((rI M 107 c) - (rI M 107 go))) then (if 0 ≤ ((rI M 107 c) - (rI M 107 go)) then ((rI M 107 c) - (rI M 107 go)) else 0 - ((rI M 107 c) - (rI M 107 go))) else (if 0 ≤ ((rI M 106 c) - (rI M 106 go)) then ((rI M 106 c) - (rI M 106 go)) else 0 - ((rI M 106 c) - (rI M 106 go))))) + (4 * (if (if 0 ≤ ((rI M 107 c) - (rI M 107 go)) then ((rI M 107 c) - (rI M 107 go)) else 0 - ((rI M 107 c) - (rI M 107 go))) < (if 0 ≤ ((rI M 106 c) - (rI M 106 go)) then ((rI M 106 c) - (rI M 106 go)) else 0 - ((rI M 106 c) - (rI M 106 go))) then (if 0 ≤ ((rI M 107 c) - (rI M 107 go)) then ((rI M 107 c) - (rI M 107 go)) else 0 - ((rI M 107 c) - (rI M 107 go))) else (if 0 ≤ ((rI M 106 c) - (rI M 106 go)) then ((rI M 106 c) - (rI M 106 go)) else 0 - ((rI M 106 c) - (rI M 106 go))))))] M v M' 0 0 := Ev.back 14 (fun n => rfl) H
  obtain ⟨p1, p2⟩ := Ev.retz rfl rfl H
  exact ⟨p1, p2⟩
theorem wto_0 {e : Nat} {M M' : Mem} {v : Option Value} {c go : Int32} (hS : SQ M) (H : Ev none e 3 0 [some (.ref 105), some (.int c), some (.int go), none] [] M v M' 0 0) : Ev none e 3 2 [some (.ref 105), some (.int c), some (.int go), some (.int 0)] [] M v M' 0 0 := by
  have H : Ev none e 3 2 [some (.ref 105), some (.int c), some (.int go), some (.int 0)] [] M v M' 0 0 := Ev.back 2 (fun n => rfl) H
  have HF := H
  exact HF
theorem wto_2 {e : Nat} {M M' : Mem} {v : Option Value} {c go d : Int32} (hS : SQ M) (H : Ev none e 3 2 [some (.ref 105), some (.int c), some (.int go), some (.int d)] [] M v M' 0 0) : (8 ≤ d ∧ v = some (.int (-1)) ∧ M' = M) ∨ (¬ (8 ≤ d) ∧ (rI M 108 ((8 * c) + d)) = go ∧ (0 ≤ ((8 * c) + d).toInt ∧ ((8 * c) + d).toInt < 2048) ∧ v = some (.int d) ∧ M' = M) ∨ (¬ (8 ≤ d) ∧ ¬ ((rI M 108 ((8 * c) + d)) = go) ∧ (0 ≤ ((8 * c) + d).toInt ∧ ((8 * c) + d).toInt < 2048) ∧ Ev none e 3 2 [some (.ref 105), some (.int c), some (.int go), some (.int (d + 1))] [] M v M' 0 0) := by
  have H : Ev none e 3 (if 8 ≤ d then 31 else 8) [some (.ref 105), some (.int c), some (.int go), some (.int d)] [] M v M' 0 0 := Ev.back 3 (fun n => rfl) H
  by_cases h1 : 8 ≤ d
  · rw [if_pos h1] at H
    have H : Ev none e 3 32 [some (.ref 105), some (.int c), some (.int go), some (.int d)] [.int (-1)] M v M' 0 0 := Ev.back 1 (fun n => rfl) H
    obtain ⟨z1, z2⟩ := Ev.retz rfl rfl H
    exact Or.inl ⟨h1, z1, z2⟩
  · rw [if_neg h1] at H
    have H : Ev none e 3 9 [some (.ref 105), some (.int c), some (.int go), some (.int d)] [.ref 105] M v M' 0 0 := Ev.back 1 (fun n => rfl) H
    have H : Ev none e 3 12 [some (.ref 105), some (.int c), some (.int go), some (.int d)] [.ref 108] M v M' 0 0 := Ev.back 1 (gs_3 rfl rfl (gf_u hS.1 qa_105 qr_23_2 qu_26 rfl)) H
    have H : Ev none e 3 18 [some (.ref 105), some (.int c), some (.int go), some (.int d)] [.int ((8 * c) + d), .ref 108] M v M' 0 0 := Ev.back 5 (fun n => rfl) H
    obtain ⟨b2, H⟩ := Ev.ial rfl rfl hS.1 qa_108 qw_26 H
    have H : Ev none e 3 19 [some (.ref 105), some (.int c), some (.int go), some (.int d)] [.int (rI M 108 ((8 * c) + d))] M v M' 0 0 := H
    have H : Ev none e 3 (if (rI M 108 ((8 * c) + d)) = go then 23 else 25) [some (.ref 105), some (.int c), some (.int go), some (.int d)] [] M v M' 0 0 := Ev.back 2 (fun n => rfl) H
    by_cases h3 : (rI M 108 ((8 * c) + d)) = go
    · rw [if_pos h3] at H
      have H : Ev none e 3 24 [some (.ref 105), some (.int c), some (.int go), some (.int d)] [.int d] M v M' 0 0 := Ev.back 1 (fun n => rfl) H
      obtain ⟨z1, z2⟩ := Ev.retz rfl rfl H
      exact Or.inr (Or.inl ⟨h1, h3, b2, z1, z2⟩)
    · rw [if_neg h3] at H
      have H : Ev none e 3 2 [some (.ref 105), some (.int c), some (.int go), some (.int (d + 1))] [] M v M' 0 0 := Ev.back 2 (fun n => rfl) H
      have HF := H
      exact Or.inr (Or.inr (⟨h1, h3, b2, HF⟩))
theorem weiw_0 {e : Nat} {M M' : Mem} {v : Option Value} {av d si : Int32} {b : Nat} (hS : SQ M) (a_b : gNth sT b = some 21) (H : Ev none e 68 0 [some (.ref 104), some (.ref b), some (.int av), some (.int d), some (.int si), none, none] [] M v M' 0 0) : ((rI M (oI M 129 0) av) ≤ 0 ∧ (0 ≤ (0 : Int32).toInt ∧ (0 : Int32).toInt < 7) ∧ (0 ≤ av.toInt ∧ av.toInt < 1536) ∧ Ev none e 68 72 [some (.ref 104), some (.ref b), some (.int av), some (.int d), some (.int si), some (.int (av - av / 256 * 256)), some (.int 0)] [] M v M' 0 0) ∨ (¬ ((rI M (oI M 129 0) av) ≤ 0) ∧ (G_8 M (fR M 104 7) (av - av / 256 * 256)) = 0 ∧ (0 ≤ (0 : Int32).toInt ∧ (0 : Int32).toInt < 7) ∧ (0 ≤ av.toInt ∧ av.toInt < 1536) ∧ Ev none e 68 72 [some (.ref 104), some (.ref b), some (.int av), some (.int d), some (.int si), some (.int (av - av / 256 * 256)), some (.int 0)] [] M v M' 0 0) ∨ (¬ ((rI M (oI M 129 0) av) ≤ 0) ∧ ¬ ((G_8 M (fR M 104 7) (av - av / 256 * 256)) = 0) ∧ (0 ≤ (0 : Int32).toInt ∧ (0 : Int32).toInt < 7) ∧ (0 ≤ av.toInt ∧ av.toInt < 1536) ∧ (0 ≤ (0 : Int32).toInt ∧ (0 : Int32).toInt < 7) ∧ (0 ≤ av.toInt ∧ av.toInt < 1536) ∧ (0 ≤ (av - av / 256 * 256).toInt ∧ (av - av / 256 * 256).toInt < 256) ∧ Ev none e 68 72 [some (.ref 104), some (.ref b), some (.int av), some (.int d), some (.int si), some (.int (av - av / 256 * 256)), some (.int (0 + ((rI M (oI M 129 0) av) * ((if 0 < ((zI M (fR M 104 2) 10) - (rI M (fR M 104 7 + 4) (av - av / 256 * 256))) then ((zI M (fR M 104 2) 10) - (rI M (fR M 104 7 + 4) (av - av / 256 * 256))) else 0) / 10))))] [] M v M' 0 0) := by
  have H : Ev none e 68 11 [some (.ref 104), some (.ref b), some (.int av), some (.int d), some (.int si), some (.int (av - av / 256 * 256)), some (.int 0)] [.ref 104] M v M' 0 0 := Ev.back 7 (fun n => rfl) H
  have H : Ev none e 68 14 [some (.ref 104), some (.ref b), some (.int av), some (.int d), some (.int si), some (.int (av - av / 256 * 256)), some (.int 0)] [.ref 129] M v M' 0 0 := Ev.back 1 (gs_3 rfl rfl (gf_u hS.1 qa_104 qr_22_5 qu_38 rfl)) H
  have H : Ev none e 68 15 [some (.ref 104), some (.ref b), some (.int av), some (.int d), some (.int si), some (.int (av - av / 256 * 256)), some (.int 0)] [.int 0, .ref 129] M v M' 0 0 := Ev.back 1 (fun n => rfl) H
  obtain ⟨b1, H⟩ := Ev.aal rfl rfl hS.1 qa_129 qz_38 H
  have H : Ev none e 68 16 [some (.ref 104), some (.ref b), some (.int av), some (.int d), some (.int si), some (.int (av - av / 256 * 256)), some (.int 0)] [.ref (oI M 129 0)] M v M' 0 0 := H
  have H : Ev none e 68 17 [some (.ref 104), some (.ref b), some (.int av), some (.int d), some (.int si), some (.int (av - av / 256 * 256)), some (.int 0)] [.int av, .ref (oI M 129 0)] M v M' 0 0 := Ev.back 1 (fun n => rfl) H
  obtain ⟨b2, H⟩ := Ev.ial rfl rfl hS.1 b1.2 qw_39 H
  have H : Ev none e 68 18 [some (.ref 104), some (.ref b), some (.int av), some (.int d), some (.int si), some (.int (av - av / 256 * 256)), some (.int 0)] [.int (rI M (oI M 129 0) av)] M v M' 0 0 := H
  have H : Ev none e 68 (if (rI M (oI M 129 0) av) ≤ 0 then 72 else 21) [some (.ref 104), some (.ref b), some (.int av), some (.int d), some (.int si), some (.int (av - av / 256 * 256)), some (.int 0)] [] M v M' 0 0 := Ev.back 1 (fun n => rfl) H
  by_cases h3 : (rI M (oI M 129 0) av) ≤ 0
  · rw [if_pos h3] at H
    have HF := H
    exact Or.inl ⟨h3, b1.1, b2, HF⟩
  · rw [if_neg h3] at H
    have H : Ev none e 68 22 [some (.ref 104), some (.ref b), some (.int av), some (.int d), some (.int si), some (.int (av - av / 256 * 256)), some (.int 0)] [.ref 104] M v M' 0 0 := Ev.back 1 (fun n => rfl) H
    have H : Ev none e 68 25 [some (.ref 104), some (.ref b), some (.int av), some (.int d), some (.int si), some (.int (av - av / 256 * 256)), some (.int 0)] [.ref (fR M 104 7)] M v M' 0 0 := Ev.back 1 (gs_3 rfl rfl (gf_r hS.1 qa_104 qr_22_7 rfl)) H
    have H : Ev none e 68 27 [some (.ref 104), some (.ref b), some (.int av), some (.int d), some (.int si), some (.int (av - av / 256 * 256)), some (.int 0)] [.int (av - av / 256 * 256), .ref (fR M 104 7)] M v M' 0 0 := Ev.back 1 (fun n => rfl) H
    obtain ⟨e1, rfl⟩ := Ev.dpos rfl rfl H
    obtain ⟨vK4, MK4, K4, H⟩ := Ev.callb (fun n_ => gs_7 rfl rfl (show gCal (.invokevirtual 178) 7 (.int (av - av / 256 * 256) :: .ref (fR M 104 7) :: []) M = some (.inr (8, [some (.ref (fR M 104 7)), some (.int (av - av / 256 * 256))], [])) from by show @cond (Option ((List Value × Mem) ⊕ (Nat × Lo × List Value))) (true && gRecv M (.ref (fR M 104 7)) 1 && gRoom [] && true) (some (.inr (8, [some (.ref (fR M 104 7)), some (.int (av - av / 256 * 256))], []))) none = _; rw [recv_s hS.1 (hS.1.fr qa_104 qr_22_7).2 qo_8]; rfl)) H
    obtain ⟨pK4, qK4⟩ := g_8 hS (hS.1.fr qa_104 qr_22_7).2 K4
    rw [pK4, qK4] at H
    have H : Ev none (e1 + 1) 68 30 [some (.ref 104), some (.ref b), some (.int av), some (.int d), some (.int si), some (.int (av - av / 256 * 256)), some (.int 0)] [.int (G_8 M (fR M 104 7) (av - av / 256 * 256))] M v M' 0 0 := H
    have H : Ev none (e1 + 1) 68 (if (G_8 M (fR M 104 7) (av - av / 256 * 256)) = 0 then 72 else 33) [some (.ref 104), some (.ref b), some (.int av), some (.int d), some (.int si), some (.int (av - av / 256 * 256)), some (.int 0)] [] M v M' 0 0 := Ev.back 1 (fun n => rfl) H
    by_cases h5 : (G_8 M (fR M 104 7) (av - av / 256 * 256)) = 0
    · rw [if_pos h5] at H
      have HF := H
      exact Or.inr (Or.inl ⟨h3, h5, b1.1, b2, HF⟩)
    · rw [if_neg h5] at H
      have H : Ev none (e1 + 1) 68 36 [some (.ref 104), some (.ref b), some (.int av), some (.int d), some (.int si), some (.int (av - av / 256 * 256)), some (.int 0)] [.ref 104, .int 0] M v M' 0 0 := Ev.back 2 (fun n => rfl) H
      have H : Ev none (e1 + 1) 68 39 [some (.ref 104), some (.ref b), some (.int av), some (.int d), some (.int si), some (.int (av - av / 256 * 256)), some (.int 0)] [.ref 129, .int 0] M v M' 0 0 := Ev.back 1 (gs_3 rfl rfl (gf_u hS.1 qa_104 qr_22_5 qu_38 rfl)) H
      have H : Ev none (e1 + 1) 68 40 [some (.ref 104), some (.ref b), some (.int av), some (.int d), some (.int si), some (.int (av - av / 256 * 256)), some (.int 0)] [.int 0, .ref 129, .int 0] M v M' 0 0 := Ev.back 1 (fun n => rfl) H
      obtain ⟨b6, H⟩ := Ev.aal rfl rfl hS.1 qa_129 qz_38 H
      have H : Ev none (e1 + 1) 68 41 [some (.ref 104), some (.ref b), some (.int av), some (.int d), some (.int si), some (.int (av - av / 256 * 256)), some (.int 0)] [.ref (oI M 129 0), .int 0] M v M' 0 0 := H
      have H : Ev none (e1 + 1) 68 42 [some (.ref 104), some (.ref b), some (.int av), some (.int d), some (.int si), some (.int (av - av / 256 * 256)), some (.int 0)] [.int av, .ref (oI M 129 0), .int 0] M v M' 0 0 := Ev.back 1 (fun n => rfl) H
      obtain ⟨b7, H⟩ := Ev.ial rfl rfl hS.1 b6.2 qw_39 H
      have H : Ev none (e1 + 1) 68 43 [some (.ref 104), some (.ref b), some (.int av), some (.int d), some (.int si), some (.int (av - av / 256 * 256)), some (.int 0)] [.int (rI M (oI M 129 0) av), .int 0] M v M' 0 0 := H
      have H : Ev none (e1 + 1) 68 45 [some (.ref 104), some (.ref b), some (.int av), some (.int d), some (.int si), some (.int (av - av / 256 * 256)), some (.int 0)] [.ref 104, .int 0, .int (rI M (oI M 129 0) av), .int 0] M v M' 0 0 := Ev.back 2 (fun n => rfl) H
      have H : Ev none (e1 + 1) 68 48 [some (.ref 104), some (.ref b), some (.int av), some (.int d), some (.int si), some (.int (av - av / 256 * 256)), some (.int 0)] [.ref (fR M 104 2), .int 0, .int (rI M (oI M 129 0) av), .int 0] M v M' 0 0 := Ev.back 1 (gs_3 rfl rfl (gf_r hS.1 qa_104 qr_22_2 rfl)) H
      have H : Ev none (e1 + 1) 68 51 [some (.ref 104), some (.ref b), some (.int av), some (.int d), some (.int si), some (.int (av - av / 256 * 256)), some (.int 0)] [.int (zI M (fR M 104 2) 10), .int 0, .int (rI M (oI M 129 0) av), .int 0] M v M' 0 0 := Ev.back 1 (gs_3 rfl rfl (gf_i hS.1 (hS.1.fr qa_104 qr_22_2).2 qi_28_10 rfl)) H
      have H : Ev none (e1 + 1) 68 52 [some (.ref 104), some (.ref b), some (.int av), some (.int d), some (.int si), some (.int (av - av / 256 * 256)), some (.int 0)] [.ref 104, .int (zI M (fR M 104 2) 10), .int 0, .int (rI M (oI M 129 0) av), .int 0] M v M' 0 0 := Ev.back 1 (fun n => rfl) H
      have H : Ev none (e1 + 1) 68 55 [some (.ref 104), some (.ref b), some (.int av), some (.int d), some (.int si), some (.int (av - av / 256 * 256)), some (.int 0)] [.ref (fR M 104 7), .int (zI M (fR M 104 2) 10), .int 0, .int (rI M (oI M 129 0) av), .int 0] M v M' 0 0 := Ev.back 1 (gs_3 rfl rfl (gf_r hS.1 qa_104 qr_22_7 rfl)) H
      have H : Ev none (e1 + 1) 68 58 [some (.ref 104), some (.ref b), some (.int av), some (.int d), some (.int si), some (.int (av - av / 256 * 256)), some (.int 0)] [.ref (fR M 104 7 + 4), .int (zI M (fR M 104 2) 10), .int 0, .int (rI M (oI M 129 0) av), .int 0] M v M' 0 0 := Ev.back 1 (gs_3 rfl rfl (gf_x hS.1 (hS.1.fr qa_104 qr_22_7).2 qo_8 (fx_l5 hS (hS.1.fr qa_104 qr_22_7).2) rfl)) H
      have H : Ev none (e1 + 1) 68 60 [some (.ref 104), some (.ref b), some (.int av), some (.int d), some (.int si), some (.int (av - av / 256 * 256)), some (.int 0)] [.int (av - av / 256 * 256), .ref (fR M 104 7 + 4), .int (zI M (fR M 104 2) 10), .int 0, .int (rI M (oI M 129 0) av), .int 0] M v M' 0 0 := Ev.back 1 (fun n => rfl) H
      obtain ⟨b8, H⟩ := Ev.ial rfl rfl hS.1 (fx_h5 (hS.1.fr qa_104 qr_22_7).2) qw_12 H
      have H : Ev none (e1 + 1) 68 61 [some (.ref 104), some (.ref b), some (.int av), some (.int d), some (.int si), some (.int (av - av / 256 * 256)), some (.int 0)] [.int (rI M (fR M 104 7 + 4) (av - av / 256 * 256)), .int (zI M (fR M 104 2) 10), .int 0, .int (rI M (oI M 129 0) av), .int 0] M v M' 0 0 := H
      have H : Ev none (e1 + 1) 68 72 [some (.ref 104), some (.ref b), some (.int av), some (.int d), some (.int si), some (.int (av - av / 256 * 256)), some (.int (0 + ((rI M (oI M 129 0) av) * ((if 0 < ((zI M (fR M 104 2) 10) - (rI M (fR M 104 7 + 4) (av - av / 256 * 256))) then ((zI M (fR M 104 2) 10) - (rI M (fR M 104 7 + 4) (av - av / 256 * 256))) else 0) / 10))))] [] M v M' 0 0 := Ev.back 7 (fun n => rfl) H
      have HF := H
      exact Or.inr (Or.inr (⟨h3, h5, b1.1, b2, b6.1, b7, b8, HF⟩))
theorem weiw_72 {e : Nat} {M M' : Mem} {v : Option Value} {av d si c wt : Int32} {b : Nat} (hS : SQ M) (a_b : gNth sT b = some 21) (H : Ev none e 68 72 [some (.ref 104), some (.ref b), some (.int av), some (.int d), some (.int si), some (.int c), some (.int wt)] [] M v M' 0 0) : (0 ≤ (1 : Int32).toInt ∧ (1 : Int32).toInt < 7) ∧ (0 ≤ av.toInt ∧ av.toInt < 1536) ∧ (0 ≤ c.toInt ∧ c.toInt < 256) ∧ (0 ≤ (2 : Int32).toInt ∧ (2 : Int32).toInt < 7) ∧ (0 ≤ av.toInt ∧ av.toInt < 1536) ∧ (0 ≤ c.toInt ∧ c.toInt < 256) ∧ (0 ≤ (zI M b 0).toInt ∧ (zI M b 0).toInt < 256) ∧ Ev none e 68 139 [some (.ref 104), some (.ref b), some (.int av), some (.int d), some (.int si), some (.int c), some (.int ((wt + ((rI M (oI M 129 1) av) * ((rI M (fR M 104 7 + 5) c) / 10))) + ((rI M (oI M 129 2) av) * (if 0 ≤ ((rI M (fR M 104 7 + 3) c) - (rI M (fR M 104 7 + 3) (zI M b 0))) then ((rI M (fR M 104 7 + 3) c) - (rI M (fR M 104 7 + 3) (zI M b 0))) else 0 - ((rI M (fR M 104 7 + 3) c) - (rI M (fR M 104 7 + 3) (zI M b 0)))))))] [] M v M' 0 0 := by
  have H : Ev none e 68 75 [some (.ref 104), some (.ref b), some (.int av), some (.int d), some (.int si), some (.int c), some (.int wt)] [.ref 104, .int wt] M v M' 0 0 := Ev.back 2 (fun n => rfl) H
  have H : Ev none e 68 78 [some (.ref 104), some (.ref b), some (.int av), some (.int d), some (.int si), some (.int c), some (.int wt)] [.ref 129, .int wt] M v M' 0 0 := Ev.back 1 (gs_3 rfl rfl (gf_u hS.1 qa_104 qr_22_5 qu_38 rfl)) H
  have H : Ev none e 68 79 [some (.ref 104), some (.ref b), some (.int av), some (.int d), some (.int si), some (.int c), some (.int wt)] [.int 1, .ref 129, .int wt] M v M' 0 0 := Ev.back 1 (fun n => rfl) H
  obtain ⟨b1, H⟩ := Ev.aal rfl rfl hS.1 qa_129 qz_38 H
  have H : Ev none e 68 80 [some (.ref 104), some (.ref b), some (.int av), some (.int d), some (.int si), some (.int c), some (.int wt)] [.ref (oI M 129 1), .int wt] M v M' 0 0 := H
  have H : Ev none e 68 81 [some (.ref 104), some (.ref b), some (.int av), some (.int d), some (.int si), some (.int c), some (.int wt)] [.int av, .ref (oI M 129 1), .int wt] M v M' 0 0 := Ev.back 1 (fun n => rfl) H
  obtain ⟨b2, H⟩ := Ev.ial rfl rfl hS.1 b1.2 qw_39 H
  have H : Ev none e 68 82 [some (.ref 104), some (.ref b), some (.int av), some (.int d), some (.int si), some (.int c), some (.int wt)] [.int (rI M (oI M 129 1) av), .int wt] M v M' 0 0 := H
  have H : Ev none e 68 83 [some (.ref 104), some (.ref b), some (.int av), some (.int d), some (.int si), some (.int c), some (.int wt)] [.ref 104, .int (rI M (oI M 129 1) av), .int wt] M v M' 0 0 := Ev.back 1 (fun n => rfl) H
  have H : Ev none e 68 86 [some (.ref 104), some (.ref b), some (.int av), some (.int d), some (.int si), some (.int c), some (.int wt)] [.ref (fR M 104 7), .int (rI M (oI M 129 1) av), .int wt] M v M' 0 0 := Ev.back 1 (gs_3 rfl rfl (gf_r hS.1 qa_104 qr_22_7 rfl)) H
  have H : Ev none e 68 89 [some (.ref 104), some (.ref b), some (.int av), some (.int d), some (.int si), some (.int c), some (.int wt)] [.ref (fR M 104 7 + 5), .int (rI M (oI M 129 1) av), .int wt] M v M' 0 0 := Ev.back 1 (gs_3 rfl rfl (gf_x hS.1 (hS.1.fr qa_104 qr_22_7).2 qo_8 (fx_l6 hS (hS.1.fr qa_104 qr_22_7).2) rfl)) H
  have H : Ev none e 68 91 [some (.ref 104), some (.ref b), some (.int av), some (.int d), some (.int si), some (.int c), some (.int wt)] [.int c, .ref (fR M 104 7 + 5), .int (rI M (oI M 129 1) av), .int wt] M v M' 0 0 := Ev.back 1 (fun n => rfl) H
  obtain ⟨b3, H⟩ := Ev.ial rfl rfl hS.1 (fx_h6 (hS.1.fr qa_104 qr_22_7).2) qw_13 H
  have H : Ev none e 68 92 [some (.ref 104), some (.ref b), some (.int av), some (.int d), some (.int si), some (.int c), some (.int wt)] [.int (rI M (fR M 104 7 + 5) c), .int (rI M (oI M 129 1) av), .int wt] M v M' 0 0 := H
  have H : Ev none e 68 102 [some (.ref 104), some (.ref b), some (.int av), some (.int d), some (.int si), some (.int c), some (.int (wt + ((rI M (oI M 129 1) av) * ((rI M (fR M 104 7 + 5) c) / 10))))] [.ref 104, .int (wt + ((rI M (oI M 129 1) av) * ((rI M (fR M 104 7 + 5) c) / 10)))] M v M' 0 0 := Ev.back 7 (fun n => rfl) H
  have H : Ev none e 68 105 [some (.ref 104), some (.ref b), some (.int av), some (.int d), some (.int si), some (.int c), some (.int (wt + ((rI M (oI M 129 1) av) * ((rI M (fR M 104 7 + 5) c) / 10))))] [.ref 129, .int (wt + ((rI M (oI M 129 1) av) * ((rI M (fR M 104 7 + 5) c) / 10)))] M v M' 0 0 := Ev.back 1 (gs_3 rfl rfl (gf_u hS.1 qa_104 qr_22_5 qu_38 rfl)) H
  have H : Ev none e 68 106 [some (.ref 104), some (.ref b), some (.int av), some (.int d), some (.int si), some (.int c), some (.int (wt + ((rI M (oI M 129 1) av) * ((rI M (fR M 104 7 + 5) c) / 10))))] [.int 2, .ref 129, .int (wt + ((rI M (oI M 129 1) av) * ((rI M (fR M 104 7 + 5) c) / 10)))] M v M' 0 0 := Ev.back 1 (fun n => rfl) H
  obtain ⟨b4, H⟩ := Ev.aal rfl rfl hS.1 qa_129 qz_38 H
  have H : Ev none e 68 107 [some (.ref 104), some (.ref b), some (.int av), some (.int d), some (.int si), some (.int c), some (.int (wt + ((rI M (oI M 129 1) av) * ((rI M (fR M 104 7 + 5) c) / 10))))] [.ref (oI M 129 2), .int (wt + ((rI M (oI M 129 1) av) * ((rI M (fR M 104 7 + 5) c) / 10)))] M v M' 0 0 := H
  have H : Ev none e 68 108 [some (.ref 104), some (.ref b), some (.int av), some (.int d), some (.int si), some (.int c), some (.int (wt + ((rI M (oI M 129 1) av) * ((rI M (fR M 104 7 + 5) c) / 10))))] [.int av, .ref (oI M 129 2), .int (wt + ((rI M (oI M 129 1) av) * ((rI M (fR M 104 7 + 5) c) / 10)))] M v M' 0 0 := Ev.back 1 (fun n => rfl) H
  obtain ⟨b5, H⟩ := Ev.ial rfl rfl hS.1 b4.2 qw_39 H
  have H : Ev none e 68 109 [some (.ref 104), some (.ref b), some (.int av), some (.int d), some (.int si), some (.int c), some (.int (wt + ((rI M (oI M 129 1) av) * ((rI M (fR M 104 7 + 5) c) / 10))))] [.int (rI M (oI M 129 2) av), .int (wt + ((rI M (oI M 129 1) av) * ((rI M (fR M 104 7 + 5) c) / 10)))] M v M' 0 0 := H
  have H : Ev none e 68 110 [some (.ref 104), some (.ref b), some (.int av), some (.int d), some (.int si), some (.int c), some (.int (wt + ((rI M (oI M 129 1) av) * ((rI M (fR M 104 7 + 5) c) / 10))))] [.ref 104, .int (rI M (oI M 129 2) av), .int (wt + ((rI M (oI M 129 1) av) * ((rI M (fR M 104 7 + 5) c) / 10)))] M v M' 0 0 := Ev.back 1 (fun n => rfl) H
  have H : Ev none e 68 113 [some (.ref 104), some (.ref b), some (.int av), some (.int d), some (.int si), some (.int c), some (.int (wt + ((rI M (oI M 129 1) av) * ((rI M (fR M 104 7 + 5) c) / 10))))] [.ref (fR M 104 7), .int (rI M (oI M 129 2) av), .int (wt + ((rI M (oI M 129 1) av) * ((rI M (fR M 104 7 + 5) c) / 10)))] M v M' 0 0 := Ev.back 1 (gs_3 rfl rfl (gf_r hS.1 qa_104 qr_22_7 rfl)) H
  have H : Ev none e 68 116 [some (.ref 104), some (.ref b), some (.int av), some (.int d), some (.int si), some (.int c), some (.int (wt + ((rI M (oI M 129 1) av) * ((rI M (fR M 104 7 + 5) c) / 10))))] [.ref (fR M 104 7 + 3), .int (rI M (oI M 129 2) av), .int (wt + ((rI M (oI M 129 1) av) * ((rI M (fR M 104 7 + 5) c) / 10)))] M v M' 0 0 := Ev.back 1 (gs_3 rfl rfl (gf_x hS.1 (hS.1.fr qa_104 qr_22_7).2 qo_8 (fx_l4 hS (hS.1.fr qa_104 qr_22_7).2) rfl)) H
  have H : Ev none e 68 118 [some (.ref 104), some (.ref b), some (.int av), some (.int d), some (.int si), some (.int c), some (.int (wt + ((rI M (oI M 129 1) av) * ((rI M (fR M 104 7 + 5) c) / 10))))] [.int c, .ref (fR M 104 7 + 3), .int (rI M (oI M 129 2) av), .int (wt + ((rI M (oI M 129 1) av) * ((rI M (fR M 104 7 + 5) c) / 10)))] M v M' 0 0 := Ev.back 1 (fun n => rfl) H
  obtain ⟨b6, H⟩ := Ev.ial rfl rfl hS.1 (fx_h4 (hS.1.fr qa_104 qr_22_7).2) qw_11 H
  have H : Ev none e 68 119 [some (.ref 104), some (.ref b), some (.int av), some (.int d), some (.int si), some (.int c), some (.int (wt + ((rI M (oI M 129 1) av) * ((rI M (fR M 104 7 + 5) c) / 10))))] [.int (rI M (fR M 104 7 + 3) c), .int (rI M (oI M 129 2) av), .int (wt + ((rI M (oI M 129 1) av) * ((rI M (fR M 104 7 + 5) c) / 10)))] M v M' 0 0 := H
  have H : Ev none e 68 120 [some (.ref 104), some (.ref b), some (.int av), some (.int d), some (.int si), some (.int c), some (.int (wt + ((rI M (oI M 129 1) av) * ((rI M (fR M 104 7 + 5) c) / 10))))] [.ref 104, .int (rI M (fR M 104 7 + 3) c), .int (rI M (oI M 129 2) av), .int (wt + ((rI M (oI M 129 1) av) * ((rI M (fR M 104 7 + 5) c) / 10)))] M v M' 0 0 := Ev.back 1 (fun n => rfl) H
  have H : Ev none e 68 123 [some (.ref 104), some (.ref b), some (.int av), some (.int d), some (.int si), some (.int c), some (.int (wt + ((rI M (oI M 129 1) av) * ((rI M (fR M 104 7 + 5) c) / 10))))] [.ref (fR M 104 7), .int (rI M (fR M 104 7 + 3) c), .int (rI M (oI M 129 2) av), .int (wt + ((rI M (oI M 129 1) av) * ((rI M (fR M 104 7 + 5) c) / 10)))] M v M' 0 0 := Ev.back 1 (gs_3 rfl rfl (gf_r hS.1 qa_104 qr_22_7 rfl)) H
  have H : Ev none e 68 126 [some (.ref 104), some (.ref b), some (.int av), some (.int d), some (.int si), some (.int c), some (.int (wt + ((rI M (oI M 129 1) av) * ((rI M (fR M 104 7 + 5) c) / 10))))] [.ref (fR M 104 7 + 3), .int (rI M (fR M 104 7 + 3) c), .int (rI M (oI M 129 2) av), .int (wt + ((rI M (oI M 129 1) av) * ((rI M (fR M 104 7 + 5) c) / 10)))] M v M' 0 0 := Ev.back 1 (gs_3 rfl rfl (gf_x hS.1 (hS.1.fr qa_104 qr_22_7).2 qo_8 (fx_l4 hS (hS.1.fr qa_104 qr_22_7).2) rfl)) H
  have H : Ev none e 68 127 [some (.ref 104), some (.ref b), some (.int av), some (.int d), some (.int si), some (.int c), some (.int (wt + ((rI M (oI M 129 1) av) * ((rI M (fR M 104 7 + 5) c) / 10))))] [.ref b, .ref (fR M 104 7 + 3), .int (rI M (fR M 104 7 + 3) c), .int (rI M (oI M 129 2) av), .int (wt + ((rI M (oI M 129 1) av) * ((rI M (fR M 104 7 + 5) c) / 10)))] M v M' 0 0 := Ev.back 1 (fun n => rfl) H
  have H : Ev none e 68 130 [some (.ref 104), some (.ref b), some (.int av), some (.int d), some (.int si), some (.int c), some (.int (wt + ((rI M (oI M 129 1) av) * ((rI M (fR M 104 7 + 5) c) / 10))))] [.int (zI M b 0), .ref (fR M 104 7 + 3), .int (rI M (fR M 104 7 + 3) c), .int (rI M (oI M 129 2) av), .int (wt + ((rI M (oI M 129 1) av) * ((rI M (fR M 104 7 + 5) c) / 10)))] M v M' 0 0 := Ev.back 1 (gs_3 rfl rfl (gf_i hS.1 a_b qi_21_0 rfl)) H
  obtain ⟨b7, H⟩ := Ev.ial rfl rfl hS.1 (fx_h4 (hS.1.fr qa_104 qr_22_7).2) qw_11 H
  have H : Ev none e 68 131 [some (.ref 104), some (.ref b), some (.int av), some (.int d), some (.int si), some (.int c), some (.int (wt + ((rI M (oI M 129 1) av) * ((rI M (fR M 104 7 + 5) c) / 10))))] [.int (rI M (fR M 104 7 + 3) (zI M b 0)), .int (rI M (fR M 104 7 + 3) c), .int (rI M (oI M 129 2) av), .int (wt + ((rI M (oI M 129 1) av) * ((rI M (fR M 104 7 + 5) c) / 10)))] M v M' 0 0 := H
  have H : Ev none e 68 132 [some (.ref 104), some (.ref b), some (.int av), some (.int d), some (.int si), some (.int c), some (.int (wt + ((rI M (oI M 129 1) av) * ((rI M (fR M 104 7 + 5) c) / 10))))] [.int ((rI M (fR M 104 7 + 3) c) - (rI M (fR M 104 7 + 3) (zI M b 0))), .int (rI M (oI M 129 2) av), .int (wt + ((rI M (oI M 129 1) av) * ((rI M (fR M 104 7 + 5) c) / 10)))] M v M' 0 0 := Ev.back 1 (fun n => rfl) H
  obtain ⟨e1, rfl⟩ := Ev.dpos rfl rfl H
  have H : Ev none (e1 + 1) 68 139 [some (.ref 104), some (.ref b), some (.int av), some (.int d), some (.int si), some (.int c), some (.int ((wt + ((rI M (oI M 129 1) av) * ((rI M (fR M 104 7 + 5) c) / 10))) + ((rI M (oI M 129 2) av) * (if 0 ≤ ((rI M (fR M 104 7 + 3) c) - (rI M (fR M 104 7 + 3) (zI M b 0))) then ((rI M (fR M 104 7 + 3) c) - (rI M (fR M 104 7 + 3) (zI M b 0))) else 0 - ((rI M (fR M 104 7 + 3) c) - (rI M (fR M 104 7 + 3) (zI M b 0)))))))] [] M v M' 0 0 := Ev.back 4 (fun n => rfl) H
  have HF := H
  exact ⟨b1.1, b2, b3, b4.1, b5, b6, b7, HF⟩
theorem weiw_139 {e : Nat} {M M' : Mem} {v : Option Value} {av d si c wt : Int32} {b : Nat} (hS : SQ M) (a_b : gNth sT b = some 21) (H : Ev none e 68 139 [some (.ref 104), some (.ref b), some (.int av), some (.int d), some (.int si), some (.int c), some (.int wt)] [] M v M' 0 0) : ((zI M 104 8) = 0 ∧ (0 ≤ (3 : Int32).toInt ∧ (3 : Int32).toInt < 7) ∧ (0 ≤ av.toInt ∧ av.toInt < 1536) ∧ (0 ≤ c.toInt ∧ c.toInt < 256) ∧ Ev none e 68 174 [some (.ref 104), some (.ref b), some (.int av), some (.int d), some (.int si), some (.int c), some (.int (wt + ((rI M (oI M 129 3) av) * (rI M (fR M 104 7 + 8) c))))] [] M v M' 0 0) ∨ (¬ ((zI M 104 8) = 0) ∧ Ev none e 68 174 [some (.ref 104), some (.ref b), some (.int av), some (.int d), some (.int si), some (.int c), some (.int (wt + 0))] [] M v M' 0 0) := by
  have H : Ev none e 68 142 [some (.ref 104), some (.ref b), some (.int av), some (.int d), some (.int si), some (.int c), some (.int wt)] [.ref 104, .int wt] M v M' 0 0 := Ev.back 2 (fun n => rfl) H
  have H : Ev none e 68 145 [some (.ref 104), some (.ref b), some (.int av), some (.int d), some (.int si), some (.int c), some (.int wt)] [.int (zI M 104 8), .int wt] M v M' 0 0 := Ev.back 1 (gs_3 rfl rfl (gf_i hS.1 qa_104 qi_22_8 rfl)) H
  have H : Ev none e 68 (if (zI M 104 8) = 0 then 152 else 148) [some (.ref 104), some (.ref b), some (.int av), some (.int d), some (.int si), some (.int c), some (.int wt)] [.int wt] M v M' 0 0 := Ev.back 1 (fun n => rfl) H
  by_cases h1 : (zI M 104 8) = 0
  · rw [if_pos h1] at H
    have H : Ev none e 68 153 [some (.ref 104), some (.ref b), some (.int av), some (.int d), some (.int si), some (.int c), some (.int wt)] [.ref 104, .int wt] M v M' 0 0 := Ev.back 1 (fun n => rfl) H
    have H : Ev none e 68 156 [some (.ref 104), some (.ref b), some (.int av), some (.int d), some (.int si), some (.int c), some (.int wt)] [.ref 129, .int wt] M v M' 0 0 := Ev.back 1 (gs_3 rfl rfl (gf_u hS.1 qa_104 qr_22_5 qu_38 rfl)) H
    have H : Ev none e 68 157 [some (.ref 104), some (.ref b), some (.int av), some (.int d), some (.int si), some (.int c), some (.int wt)] [.int 3, .ref 129, .int wt] M v M' 0 0 := Ev.back 1 (fun n => rfl) H
    obtain ⟨b2, H⟩ := Ev.aal rfl rfl hS.1 qa_129 qz_38 H
    have H : Ev none e 68 158 [some (.ref 104), some (.ref b), some (.int av), some (.int d), some (.int si), some (.int c), some (.int wt)] [.ref (oI M 129 3), .int wt] M v M' 0 0 := H
    have H : Ev none e 68 159 [some (.ref 104), some (.ref b), some (.int av), some (.int d), some (.int si), some (.int c), some (.int wt)] [.int av, .ref (oI M 129 3), .int wt] M v M' 0 0 := Ev.back 1 (fun n => rfl) H
    obtain ⟨b3, H⟩ := Ev.ial rfl rfl hS.1 b2.2 qw_39 H
    have H : Ev none e 68 160 [some (.ref 104), some (.ref b), some (.int av), some (.int d), some (.int si), some (.int c), some (.int wt)] [.int (rI M (oI M 129 3) av), .int wt] M v M' 0 0 := H
    have H : Ev none e 68 161 [some (.ref 104), some (.ref b), some (.int av), some (.int d), some (.int si), some (.int c), some (.int wt)] [.ref 104, .int (rI M (oI M 129 3) av), .int wt] M v M' 0 0 := Ev.back 1 (fun n => rfl) H
    have H : Ev none e 68 164 [some (.ref 104), some (.ref b), some (.int av), some (.int d), some (.int si), some (.int c), some (.int wt)] [.ref (fR M 104 7), .int (rI M (oI M 129 3) av), .int wt] M v M' 0 0 := Ev.back 1 (gs_3 rfl rfl (gf_r hS.1 qa_104 qr_22_7 rfl)) H
    have H : Ev none e 68 167 [some (.ref 104), some (.ref b), some (.int av), some (.int d), some (.int si), some (.int c), some (.int wt)] [.ref (fR M 104 7 + 8), .int (rI M (oI M 129 3) av), .int wt] M v M' 0 0 := Ev.back 1 (gs_3 rfl rfl (gf_x hS.1 (hS.1.fr qa_104 qr_22_7).2 qo_8 (fx_l9 hS (hS.1.fr qa_104 qr_22_7).2) rfl)) H
    have H : Ev none e 68 169 [some (.ref 104), some (.ref b), some (.int av), some (.int d), some (.int si), some (.int c), some (.int wt)] [.int c, .ref (fR M 104 7 + 8), .int (rI M (oI M 129 3) av), .int wt] M v M' 0 0 := Ev.back 1 (fun n => rfl) H
    obtain ⟨b4, H⟩ := Ev.ial rfl rfl hS.1 (fx_h9 (hS.1.fr qa_104 qr_22_7).2) qw_16 H
    have H : Ev none e 68 170 [some (.ref 104), some (.ref b), some (.int av), some (.int d), some (.int si), some (.int c), some (.int wt)] [.int (rI M (fR M 104 7 + 8) c), .int (rI M (oI M 129 3) av), .int wt] M v M' 0 0 := H
    have H : Ev none e 68 174 [some (.ref 104), some (.ref b), some (.int av), some (.int d), some (.int si), some (.int c), some (.int (wt + ((rI M (oI M 129 3) av) * (rI M (fR M 104 7 + 8) c))))] [] M v M' 0 0 := Ev.back 3 (fun n => rfl) H
    have HF := H
    exact Or.inl ⟨h1, b2.1, b3, b4, HF⟩
  · rw [if_neg h1] at H
    have H : Ev none e 68 174 [some (.ref 104), some (.ref b), some (.int av), some (.int d), some (.int si), some (.int c), some (.int (wt + 0))] [] M v M' 0 0 := Ev.back 4 (fun n => rfl) H
    have HF := H
    exact Or.inr (⟨h1, HF⟩)
theorem weiw_174 {e : Nat} {M M' : Mem} {v : Option Value} {av d si c wt : Int32} {b : Nat} (hS : SQ M) (a_b : gNth sT b = some 21) (H : Ev none e 68 174 [some (.ref 104), some (.ref b), some (.int av), some (.int d), some (.int si), some (.int c), some (.int wt)] [] M v M' 0 0) : ((zI M b 4) = (-1) ∧ Ev none e 68 207 [some (.ref 104), some (.ref b), some (.int av), some (.int d), some (.int si), some (.int c), some (.int (wt + 0))] [] M v M' 0 0) ∨ (¬ ((zI M b 4) = (-1)) ∧ (zI M b 4) = d ∧ Ev none e 68 207 [some (.ref 104), some (.ref b), some (.int av), some (.int d), some (.int si), some (.int c), some (.int (wt + 0))] [] M v M' 0 0) ∨ (¬ ((zI M b 4) = (-1)) ∧ ¬ ((zI M b 4) = d) ∧ (0 ≤ (4 : Int32).toInt ∧ (4 : Int32).toInt < 7) ∧ (0 ≤ av.toInt ∧ av.toInt < 1536) ∧ Ev none e 68 207 [some (.ref 104), some (.ref b), some (.int av), some (.int d), some (.int si), some (.int c), some (.int (wt + (rI M (oI M 129 4) av)))] [] M v M' 0 0) := by
  have H : Ev none e 68 177 [some (.ref 104), some (.ref b), some (.int av), some (.int d), some (.int si), some (.int c), some (.int wt)] [.ref b, .int wt] M v M' 0 0 := Ev.back 2 (fun n => rfl) H
  have H : Ev none e 68 180 [some (.ref 104), some (.ref b), some (.int av), some (.int d), some (.int si), some (.int c), some (.int wt)] [.int (zI M b 4), .int wt] M v M' 0 0 := Ev.back 1 (gs_3 rfl rfl (gf_i hS.1 a_b qi_21_4 rfl)) H
  have H : Ev none e 68 (if (zI M b 4) = (-1) then 203 else 184) [some (.ref 104), some (.ref b), some (.int av), some (.int d), some (.int si), some (.int c), some (.int wt)] [.int wt] M v M' 0 0 := Ev.back 2 (fun n => rfl) H
  by_cases h1 : (zI M b 4) = (-1)
  · rw [if_pos h1] at H
    have H : Ev none e 68 207 [some (.ref 104), some (.ref b), some (.int av), some (.int d), some (.int si), some (.int c), some (.int (wt + 0))] [] M v M' 0 0 := Ev.back 3 (fun n => rfl) H
    have HF := H
    exact Or.inl ⟨h1, HF⟩
  · rw [if_neg h1] at H
    have H : Ev none e 68 185 [some (.ref 104), some (.ref b), some (.int av), some (.int d), some (.int si), some (.int c), some (.int wt)] [.ref b, .int wt] M v M' 0 0 := Ev.back 1 (fun n => rfl) H
    have H : Ev none e 68 188 [some (.ref 104), some (.ref b), some (.int av), some (.int d), some (.int si), some (.int c), some (.int wt)] [.int (zI M b 4), .int wt] M v M' 0 0 := Ev.back 1 (gs_3 rfl rfl (gf_i hS.1 a_b qi_21_4 rfl)) H
    have H : Ev none e 68 (if (zI M b 4) = d then 203 else 192) [some (.ref 104), some (.ref b), some (.int av), some (.int d), some (.int si), some (.int c), some (.int wt)] [.int wt] M v M' 0 0 := Ev.back 2 (fun n => rfl) H
    by_cases h2 : (zI M b 4) = d
    · rw [if_pos h2] at H
      have H : Ev none e 68 207 [some (.ref 104), some (.ref b), some (.int av), some (.int d), some (.int si), some (.int c), some (.int (wt + 0))] [] M v M' 0 0 := Ev.back 3 (fun n => rfl) H
      have HF := H
      exact Or.inr (Or.inl ⟨h1, h2, HF⟩)
    · rw [if_neg h2] at H
      have H : Ev none e 68 193 [some (.ref 104), some (.ref b), some (.int av), some (.int d), some (.int si), some (.int c), some (.int wt)] [.ref 104, .int wt] M v M' 0 0 := Ev.back 1 (fun n => rfl) H
      have H : Ev none e 68 196 [some (.ref 104), some (.ref b), some (.int av), some (.int d), some (.int si), some (.int c), some (.int wt)] [.ref 129, .int wt] M v M' 0 0 := Ev.back 1 (gs_3 rfl rfl (gf_u hS.1 qa_104 qr_22_5 qu_38 rfl)) H
      have H : Ev none e 68 197 [some (.ref 104), some (.ref b), some (.int av), some (.int d), some (.int si), some (.int c), some (.int wt)] [.int 4, .ref 129, .int wt] M v M' 0 0 := Ev.back 1 (fun n => rfl) H
      obtain ⟨b3, H⟩ := Ev.aal rfl rfl hS.1 qa_129 qz_38 H
      have H : Ev none e 68 198 [some (.ref 104), some (.ref b), some (.int av), some (.int d), some (.int si), some (.int c), some (.int wt)] [.ref (oI M 129 4), .int wt] M v M' 0 0 := H
      have H : Ev none e 68 199 [some (.ref 104), some (.ref b), some (.int av), some (.int d), some (.int si), some (.int c), some (.int wt)] [.int av, .ref (oI M 129 4), .int wt] M v M' 0 0 := Ev.back 1 (fun n => rfl) H
      obtain ⟨b4, H⟩ := Ev.ial rfl rfl hS.1 b3.2 qw_39 H
      have H : Ev none e 68 200 [some (.ref 104), some (.ref b), some (.int av), some (.int d), some (.int si), some (.int c), some (.int wt)] [.int (rI M (oI M 129 4) av), .int wt] M v M' 0 0 := H
      have H : Ev none e 68 207 [some (.ref 104), some (.ref b), some (.int av), some (.int d), some (.int si), some (.int c), some (.int (wt + (rI M (oI M 129 4) av)))] [] M v M' 0 0 := Ev.back 3 (fun n => rfl) H
      have HF := H
      exact Or.inr (Or.inr (⟨h1, h2, b3.1, b4, HF⟩))
theorem weiw_207 {e : Nat} {M M' : Mem} {v : Option Value} {av d si c wt : Int32} {b : Nat} (hS : SQ M) (a_b : gNth sT b = some 21) (H : Ev none e 68 207 [some (.ref 104), some (.ref b), some (.int av), some (.int d), some (.int si), some (.int c), some (.int wt)] [] M v M' 0 0) : ((zI M b 3) = c ∧ (0 ≤ (5 : Int32).toInt ∧ (5 : Int32).toInt < 7) ∧ (0 ≤ av.toInt ∧ av.toInt < 1536) ∧ Ev none e 68 233 [some (.ref 104), some (.ref b), some (.int av), some (.int d), some (.int si), some (.int c), some (.int (wt + (rI M (oI M 129 5) av)))] [] M v M' 0 0) ∨ (¬ ((zI M b 3) = c) ∧ Ev none e 68 233 [some (.ref 104), some (.ref b), some (.int av), some (.int d), some (.int si), some (.int c), some (.int (wt + 0))] [] M v M' 0 0) := by
  have H : Ev none e 68 210 [some (.ref 104), some (.ref b), some (.int av), some (.int d), some (.int si), some (.int c), some (.int wt)] [.ref b, .int wt] M v M' 0 0 := Ev.back 2 (fun n => rfl) H
  have H : Ev none e 68 213 [some (.ref 104), some (.ref b), some (.int av), some (.int d), some (.int si), some (.int c), some (.int wt)] [.int (zI M b 3), .int wt] M v M' 0 0 := Ev.back 1 (gs_3 rfl rfl (gf_i hS.1 a_b qi_21_3 rfl)) H
  have H : Ev none e 68 (if (zI M b 3) = c then 218 else 229) [some (.ref 104), some (.ref b), some (.int av), some (.int d), some (.int si), some (.int c), some (.int wt)] [.int wt] M v M' 0 0 := Ev.back 2 (fun n => rfl) H
  by_cases h1 : (zI M b 3) = c
  · rw [if_pos h1] at H
    have H : Ev none e 68 219 [some (.ref 104), some (.ref b), some (.int av), some (.int d), some (.int si), some (.int c), some (.int wt)] [.ref 104, .int wt] M v M' 0 0 := Ev.back 1 (fun n => rfl) H
    have H : Ev none e 68 222 [some (.ref 104), some (.ref b), some (.int av), some (.int d), some (.int si), some (.int c), some (.int wt)] [.ref 129, .int wt] M v M' 0 0 := Ev.back 1 (gs_3 rfl rfl (gf_u hS.1 qa_104 qr_22_5 qu_38 rfl)) H
    have H : Ev none e 68 223 [some (.ref 104), some (.ref b), some (.int av), some (.int d), some (.int si), some (.int c), some (.int wt)] [.int 5, .ref 129, .int wt] M v M' 0 0 := Ev.back 1 (fun n => rfl) H
    obtain ⟨b2, H⟩ := Ev.aal rfl rfl hS.1 qa_129 qz_38 H
    have H : Ev none e 68 224 [some (.ref 104), some (.ref b), some (.int av), some (.int d), some (.int si), some (.int c), some (.int wt)] [.ref (oI M 129 5), .int wt] M v M' 0 0 := H
    have H : Ev none e 68 225 [some (.ref 104), some (.ref b), some (.int av), some (.int d), some (.int si), some (.int c), some (.int wt)] [.int av, .ref (oI M 129 5), .int wt] M v M' 0 0 := Ev.back 1 (fun n => rfl) H
    obtain ⟨b3, H⟩ := Ev.ial rfl rfl hS.1 b2.2 qw_39 H
    have H : Ev none e 68 226 [some (.ref 104), some (.ref b), some (.int av), some (.int d), some (.int si), some (.int c), some (.int wt)] [.int (rI M (oI M 129 5) av), .int wt] M v M' 0 0 := H
    have H : Ev none e 68 233 [some (.ref 104), some (.ref b), some (.int av), some (.int d), some (.int si), some (.int c), some (.int (wt + (rI M (oI M 129 5) av)))] [] M v M' 0 0 := Ev.back 3 (fun n => rfl) H
    have HF := H
    exact Or.inl ⟨h1, b2.1, b3, HF⟩
  · rw [if_neg h1] at H
    have H : Ev none e 68 233 [some (.ref 104), some (.ref b), some (.int av), some (.int d), some (.int si), some (.int c), some (.int (wt + 0))] [] M v M' 0 0 := Ev.back 3 (fun n => rfl) H
    have HF := H
    exact Or.inr (⟨h1, HF⟩)
theorem weiw_233 {e : Nat} {M M' : Mem} {v : Option Value} {av d si c wt : Int32} {b : Nat} (hS : SQ M) (a_b : gNth sT b = some 21) (H : Ev none e 68 233 [some (.ref 104), some (.ref b), some (.int av), some (.int d), some (.int si), some (.int c), some (.int wt)] [] M v M' 0 0) : ((rI M (oI M 129 6) av) ≤ 0 ∧ (0 ≤ (6 : Int32).toInt ∧ (6 : Int32).toInt < 7) ∧ (0 ≤ av.toInt ∧ av.toInt < 1536) ∧ Ev none e 68 269 [some (.ref 104), some (.ref b), some (.int av), some (.int d), some (.int si), some (.int c), some (.int wt)] [] M v M' 0 0) ∨ (¬ ((rI M (oI M 129 6) av) ≤ 0) ∧ (0 ≤ (6 : Int32).toInt ∧ (6 : Int32).toInt < 7) ∧ (0 ≤ av.toInt ∧ av.toInt < 1536) ∧ (0 ≤ (6 : Int32).toInt ∧ (6 : Int32).toInt < 7) ∧ (0 ≤ av.toInt ∧ av.toInt < 1536) ∧ (∃ e1 v1 M1, e = e1 + 1 ∧ Ev none e1 69 0 [some (.ref 104), some (.int c), some (.int d), some (.int si), none, none, none] [] M v1 M1 0 0 ∧ Ev none e 68 265 [some (.ref 104), some (.ref b), some (.int av), some (.int d), some (.int si), some (.int c), some (.int wt)] (v1.toList ++ [.int (rI M (oI M 129 6) av), .int wt]) M1 v M' 0 0)) := by
  have H : Ev none e 68 234 [some (.ref 104), some (.ref b), some (.int av), some (.int d), some (.int si), some (.int c), some (.int wt)] [.ref 104] M v M' 0 0 := Ev.back 1 (fun n => rfl) H
  have H : Ev none e 68 237 [some (.ref 104), some (.ref b), some (.int av), some (.int d), some (.int si), some (.int c), some (.int wt)] [.ref 129] M v M' 0 0 := Ev.back 1 (gs_3 rfl rfl (gf_u hS.1 qa_104 qr_22_5 qu_38 rfl)) H
  have H : Ev none e 68 239 [some (.ref 104), some (.ref b), some (.int av), some (.int d), some (.int si), some (.int c), some (.int wt)] [.int 6, .ref 129] M v M' 0 0 := Ev.back 1 (fun n => rfl) H
  obtain ⟨b1, H⟩ := Ev.aal rfl rfl hS.1 qa_129 qz_38 H
  have H : Ev none e 68 240 [some (.ref 104), some (.ref b), some (.int av), some (.int d), some (.int si), some (.int c), some (.int wt)] [.ref (oI M 129 6)] M v M' 0 0 := H
  have H : Ev none e 68 241 [some (.ref 104), some (.ref b), some (.int av), some (.int d), some (.int si), some (.int c), some (.int wt)] [.int av, .ref (oI M 129 6)] M v M' 0 0 := Ev.back 1 (fun n => rfl) H
  obtain ⟨b2, H⟩ := Ev.ial rfl rfl hS.1 b1.2 qw_39 H
  have H : Ev none e 68 242 [some (.ref 104), some (.ref b), some (.int av), some (.int d), some (.int si), some (.int c), some (.int wt)] [.int (rI M (oI M 129 6) av)] M v M' 0 0 := H
  have H : Ev none e 68 (if (rI M (oI M 129 6) av) ≤ 0 then 269 else 245) [some (.ref 104), some (.ref b), some (.int av), some (.int d), some (.int si), some (.int c), some (.int wt)] [] M v M' 0 0 := Ev.back 1 (fun n => rfl) H
  by_cases h3 : (rI M (oI M 129 6) av) ≤ 0
  · rw [if_pos h3] at H
    have HF := H
    exact Or.inl ⟨h3, b1.1, b2, HF⟩
  · rw [if_neg h3] at H
    have H : Ev none e 68 248 [some (.ref 104), some (.ref b), some (.int av), some (.int d), some (.int si), some (.int c), some (.int wt)] [.ref 104, .int wt] M v M' 0 0 := Ev.back 2 (fun n => rfl) H
    have H : Ev none e 68 251 [some (.ref 104), some (.ref b), some (.int av), some (.int d), some (.int si), some (.int c), some (.int wt)] [.ref 129, .int wt] M v M' 0 0 := Ev.back 1 (gs_3 rfl rfl (gf_u hS.1 qa_104 qr_22_5 qu_38 rfl)) H
    have H : Ev none e 68 253 [some (.ref 104), some (.ref b), some (.int av), some (.int d), some (.int si), some (.int c), some (.int wt)] [.int 6, .ref 129, .int wt] M v M' 0 0 := Ev.back 1 (fun n => rfl) H
    obtain ⟨b4, H⟩ := Ev.aal rfl rfl hS.1 qa_129 qz_38 H
    have H : Ev none e 68 254 [some (.ref 104), some (.ref b), some (.int av), some (.int d), some (.int si), some (.int c), some (.int wt)] [.ref (oI M 129 6), .int wt] M v M' 0 0 := H
    have H : Ev none e 68 255 [some (.ref 104), some (.ref b), some (.int av), some (.int d), some (.int si), some (.int c), some (.int wt)] [.int av, .ref (oI M 129 6), .int wt] M v M' 0 0 := Ev.back 1 (fun n => rfl) H
    obtain ⟨b5, H⟩ := Ev.ial rfl rfl hS.1 b4.2 qw_39 H
    have H : Ev none e 68 256 [some (.ref 104), some (.ref b), some (.int av), some (.int d), some (.int si), some (.int c), some (.int wt)] [.int (rI M (oI M 129 6) av), .int wt] M v M' 0 0 := H
    have H : Ev none e 68 262 [some (.ref 104), some (.ref b), some (.int av), some (.int d), some (.int si), some (.int c), some (.int wt)] [.int si, .int d, .int c, .ref 104, .int (rI M (oI M 129 6) av), .int wt] M v M' 0 0 := Ev.back 4 (fun n => rfl) H
    obtain ⟨e1, rfl⟩ := Ev.dpos rfl rfl H
    obtain ⟨vK6, MK6, K6, H⟩ := Ev.callb (fun n_ => gs_7 rfl rfl (show gCal (.invokevirtual 258) 7 (.int si :: .int d :: .int c :: .ref 104 :: [.int (rI M (oI M 129 6) av), .int wt]) M = some (.inr (69, [some (.ref 104), some (.int c), some (.int d), some (.int si), none, none, none], [.int (rI M (oI M 129 6) av), .int wt])) from by show @cond (Option ((List Value × Mem) ⊕ (Nat × Lo × List Value))) (true && gRecv M (.ref 104) 7 && gRoom [.int (rI M (oI M 129 6) av), .int wt] && true) (some (.inr (69, [some (.ref 104), some (.int c), some (.int d), some (.int si), none, none, none], [.int (rI M (oI M 129 6) av), .int wt]))) none = _; rw [recv_s hS.1 qa_104 qo_22]; rfl)) H
    have K6 : Ev none e1 69 0 [some (.ref 104), some (.int c), some (.int d), some (.int si), none, none, none] [] M vK6 MK6 0 0 := K6
    have HF := H
    exact Or.inr (⟨h3, b1.1, b2, b4.1, b5, ⟨e1, vK6, MK6, rfl, K6, HF⟩⟩)
theorem weiw_265 {e : Nat} {M M' : Mem} {v : Option Value} {av d si c wt y s0 w0 : Int32} {b : Nat} (hS : SQ M) (a_b : gNth sT b = some 21) (H : Ev none e 68 265 [some (.ref 104), some (.ref b), some (.int av), some (.int d), some (.int si), some (.int c), some (.int wt)] [.int y, .int s0, .int w0] M v M' 0 0) : v = some (.int (w0 - (s0 * y))) ∧ M' = M := by
  have H : Ev none e 68 271 [some (.ref 104), some (.ref b), some (.int av), some (.int d), some (.int si), some (.int c), some (.int (w0 - (s0 * y)))] [.int (w0 - (s0 * y))] M v M' 0 0 := Ev.back 4 (fun n => rfl) H
  obtain ⟨z1, z2⟩ := Ev.retz rfl rfl H
  exact ⟨z1, z2⟩
theorem weiw_269 {e : Nat} {M M' : Mem} {v : Option Value} {av d si c wt : Int32} {b : Nat} (hS : SQ M) (a_b : gNth sT b = some 21) (H : Ev none e 68 269 [some (.ref 104), some (.ref b), some (.int av), some (.int d), some (.int si), some (.int c), some (.int wt)] [] M v M' 0 0) : v = some (.int wt) ∧ M' = M := by
  have H : Ev none e 68 271 [some (.ref 104), some (.ref b), some (.int av), some (.int d), some (.int si), some (.int c), some (.int wt)] [.int wt] M v M' 0 0 := Ev.back 1 (fun n => rfl) H
  obtain ⟨z1, z2⟩ := Ev.retz rfl rfl H
  exact ⟨z1, z2⟩
theorem chow_0 {e : Nat} {M M' : Mem} {v : Option Value} {go ha : Int32} {b : Nat} (hS : SQ M) (a_b : gNth sT b = some 21) (H : Ev none e 66 0 [some (.ref 104), some (.ref b), some (.int go), some (.int ha), none, none, none, none, none, none] [] M v M' 0 0) : (∃ e1 v1 M1, e = e1 + 1 ∧ Ev none e1 3 0 [some (.ref 105), some (.int (zI M b 0)), some (.int go), none] [] M v1 M1 0 0 ∧ Ev none e 66 12 [some (.ref 104), some (.ref b), some (.int go), some (.int ha), none, none, none, none, none, none] (v1.toList ++ []) M1 v M' 0 0) := by
  have H : Ev none e 66 1 [some (.ref 104), some (.ref b), some (.int go), some (.int ha), none, none, none, none, none, none] [.ref 104] M v M' 0 0 := Ev.back 1 (fun n => rfl) H
  have H : Ev none e 66 4 [some (.ref 104), some (.ref b), some (.int go), some (.int ha), none, none, none, none, none, none] [.ref 105] M v M' 0 0 := Ev.back 1 (gs_3 rfl rfl (gf_u hS.1 qa_104 qr_22_0 qu_23 rfl)) H
  have H : Ev none e 66 5 [some (.ref 104), some (.ref b), some (.int go), some (.int ha), none, none, none, none, none, none] [.ref b, .ref 105] M v M' 0 0 := Ev.back 1 (fun n => rfl) H
  have H : Ev none e 66 8 [some (.ref 104), some (.ref b), some (.int go), some (.int ha), none, none, none, none, none, none] [.int (zI M b 0), .ref 105] M v M' 0 0 := Ev.back 1 (gs_3 rfl rfl (gf_i hS.1 a_b qi_21_0 rfl)) H
  have H : Ev none e 66 9 [some (.ref 104), some (.ref b), some (.int go), some (.int ha), none, none, none, none, none, none] [.int go, .int (zI M b 0), .ref 105] M v M' 0 0 := Ev.back 1 (fun n => rfl) H
  obtain ⟨e1, rfl⟩ := Ev.dpos rfl rfl H
  obtain ⟨vK1, MK1, K1, H⟩ := Ev.callb (fun n_ => gs_7 rfl rfl (show gCal (.invokevirtual 222) 7 (.int go :: .int (zI M b 0) :: .ref 105 :: []) M = some (.inr (3, [some (.ref 105), some (.int (zI M b 0)), some (.int go), none], [])) from by show @cond (Option ((List Value × Mem) ⊕ (Nat × Lo × List Value))) (true && gRecv M (.ref 105) 0 && gRoom [] && true) (some (.inr (3, [some (.ref 105), some (.int (zI M b 0)), some (.int go), none], []))) none = _; rw [recv_s hS.1 qa_105 qo_23]; rfl)) H
  have K1 : Ev none e1 3 0 [some (.ref 105), some (.int (zI M b 0)), some (.int go), none] [] M vK1 MK1 0 0 := K1
  have HF := H
  exact ⟨e1, vK1, MK1, rfl, K1, HF⟩
theorem chow_12 {e : Nat} {M M' : Mem} {v : Option Value} {go ha y : Int32} {b : Nat} (hS : SQ M) (a_b : gNth sT b = some 21) (H : Ev none e 66 12 [some (.ref 104), some (.ref b), some (.int go), some (.int ha), none, none, none, none, none, none] [.int y] M v M' 0 0) : (y = (-1) ∧ Ev none e 66 29 [some (.ref 104), some (.ref b), some (.int go), some (.int ha), some (.int y), some (.int 0), some (.int 0), none, none, none] [] M v M' 0 0) ∨ (¬ (y = (-1)) ∧ v = some (.int y) ∧ M' = M) := by
  have H : Ev none e 66 (if y = (-1) then 23 else 20) [some (.ref 104), some (.ref b), some (.int go), some (.int ha), some (.int y), none, none, none, none, none] [] M v M' 0 0 := Ev.back 4 (fun n => rfl) H
  by_cases h1 : y = (-1)
  · rw [if_pos h1] at H
    have H : Ev none e 66 29 [some (.ref 104), some (.ref b), some (.int go), some (.int ha), some (.int y), some (.int 0), some (.int 0), none, none, none] [] M v M' 0 0 := Ev.back 4 (fun n => rfl) H
    have HF := H
    exact Or.inl ⟨h1, HF⟩
  · rw [if_neg h1] at H
    have H : Ev none e 66 22 [some (.ref 104), some (.ref b), some (.int go), some (.int ha), some (.int y), none, none, none, none, none] [.int y] M v M' 0 0 := Ev.back 1 (fun n => rfl) H
    obtain ⟨z1, z2⟩ := Ev.retz rfl rfl H
    exact Or.inr (⟨h1, z1, z2⟩)
theorem chow_29 {e : Nat} {M M' : Mem} {v : Option Value} {go ha be le d : Int32} {b : Nat} {c7 c8 c9 : Option Value} (hS : SQ M) (a_b : gNth sT b = some 21) (H : Ev none e 66 29 [some (.ref 104), some (.ref b), some (.int go), some (.int ha), some (.int be), some (.int le), some (.int d), c7, c8, c9] [] M v M' 0 0) : (8 ≤ d ∧ v = some (.int be) ∧ M' = M) ∨ (¬ (8 ≤ d) ∧ (rI M 108 ((8 * (zI M b 0)) + d)) = (-1) ∧ (0 ≤ ((8 * (zI M b 0)) + d).toInt ∧ ((8 * (zI M b 0)) + d).toInt < 2048) ∧ Ev none e 66 29 [some (.ref 104), some (.ref b), some (.int go), some (.int ha), some (.int be), some (.int le), some (.int (d + 1)), some (.int (rI M 108 ((8 * (zI M b 0)) + d))), c8, c9] [] M v M' 0 0) ∨ (¬ (8 ≤ d) ∧ ¬ ((rI M 108 ((8 * (zI M b 0)) + d)) = (-1)) ∧ (G_7 M (fR M 104 7) (rI M 108 ((8 * (zI M b 0)) + d))) = 0 ∧ (0 ≤ ((8 * (zI M b 0)) + d).toInt ∧ ((8 * (zI M b 0)) + d).toInt < 2048) ∧ Ev none e 66 29 [some (.ref 104), some (.ref b), some (.int go), some (.int ha), some (.int be), some (.int le), some (.int (d + 1)), some (.int (rI M 108 ((8 * (zI M b 0)) + d))), c8, c9] [] M v M' 0 0) ∨ (¬ (8 ≤ d) ∧ ¬ ((rI M 108 ((8 * (zI M b 0)) + d)) = (-1)) ∧ ¬ ((G_7 M (fR M 104 7) (rI M 108 ((8 * (zI M b 0)) + d))) = 0) ∧ (rI M 128 ((256 * ha) + (rI M 108 ((8 * (zI M b 0)) + d)))) = (-1) ∧ (0 ≤ ((8 * (zI M b 0)) + d).toInt ∧ ((8 * (zI M b 0)) + d).toInt < 2048) ∧ (0 ≤ ((256 * ha) + (rI M 108 ((8 * (zI M b 0)) + d))).toInt ∧ ((256 * ha) + (rI M 108 ((8 * (zI M b 0)) + d))).toInt < 1536) ∧ (0 ≤ ha.toInt ∧ ha.toInt < 6) ∧ (∃ e1 v1 M1, e = e1 + 1 ∧ Ev none e1 67 0 [some (.ref 104), some (.ref (oI M 109 ha)), some (.int ((256 * ha) + (rI M 108 ((8 * (zI M b 0)) + d)))), some (.int (rI M 108 ((8 * (zI M b 0)) + d))), none, none] [] M v1 M1 0 0 ∧ Ev none e 66 112 [some (.ref 104), some (.ref b), some (.int go), some (.int ha), some (.int be), some (.int le), some (.int d), some (.int (rI M 108 ((8 * (zI M b 0)) + d))), some (.int ((256 * ha) + (rI M 108 ((8 * (zI M b 0)) + d)))), c9] (v1.toList ++ []) M1 v M' 0 0)) ∨ (¬ (8 ≤ d) ∧ ¬ ((rI M 108 ((8 * (zI M b 0)) + d)) = (-1)) ∧ ¬ ((G_7 M (fR M 104 7) (rI M 108 ((8 * (zI M b 0)) + d))) = 0) ∧ ¬ ((rI M 128 ((256 * ha) + (rI M 108 ((8 * (zI M b 0)) + d)))) = (-1)) ∧ (0 ≤ ((8 * (zI M b 0)) + d).toInt ∧ ((8 * (zI M b 0)) + d).toInt < 2048) ∧ (0 ≤ ((256 * ha) + (rI M 108 ((8 * (zI M b 0)) + d))).toInt ∧ ((256 * ha) + (rI M 108 ((8 * (zI M b 0)) + d))).toInt < 1536) ∧ Ev none e 66 112 [some (.ref 104), some (.ref b), some (.int go), some (.int ha), some (.int be), some (.int le), some (.int d), some (.int (rI M 108 ((8 * (zI M b 0)) + d))), some (.int ((256 * ha) + (rI M 108 ((8 * (zI M b 0)) + d)))), c9] [] M v M' 0 0) := by
  have H : Ev none e 66 (if 8 ≤ d then 184 else 36) [some (.ref 104), some (.ref b), some (.int go), some (.int ha), some (.int be), some (.int le), some (.int d), c7, c8, c9] [] M v M' 0 0 := Ev.back 3 (fun n => rfl) H
  by_cases h1 : 8 ≤ d
  · rw [if_pos h1] at H
    have H : Ev none e 66 186 [some (.ref 104), some (.ref b), some (.int go), some (.int ha), some (.int be), some (.int le), some (.int d), c7, c8, c9] [.int be] M v M' 0 0 := Ev.back 1 (fun n => rfl) H
    obtain ⟨z1, z2⟩ := Ev.retz rfl rfl H
    exact Or.inl ⟨h1, z1, z2⟩
  · rw [if_neg h1] at H
    have H : Ev none e 66 37 [some (.ref 104), some (.ref b), some (.int go), some (.int ha), some (.int be), some (.int le), some (.int d), c7, c8, c9] [.ref 104] M v M' 0 0 := Ev.back 1 (fun n => rfl) H
    have H : Ev none e 66 40 [some (.ref 104), some (.ref b), some (.int go), some (.int ha), some (.int be), some (.int le), some (.int d), c7, c8, c9] [.ref 105] M v M' 0 0 := Ev.back 1 (gs_3 rfl rfl (gf_u hS.1 qa_104 qr_22_0 qu_23 rfl)) H
    have H : Ev none e 66 43 [some (.ref 104), some (.ref b), some (.int go), some (.int ha), some (.int be), some (.int le), some (.int d), c7, c8, c9] [.ref 108] M v M' 0 0 := Ev.back 1 (gs_3 rfl rfl (gf_u hS.1 qa_105 qr_23_2 qu_26 rfl)) H
    have H : Ev none e 66 46 [some (.ref 104), some (.ref b), some (.int go), some (.int ha), some (.int be), some (.int le), some (.int d), c7, c8, c9] [.ref b, .int 8, .ref 108] M v M' 0 0 := Ev.back 2 (fun n => rfl) H
    have H : Ev none e 66 49 [some (.ref 104), some (.ref b), some (.int go), some (.int ha), some (.int be), some (.int le), some (.int d), c7, c8, c9] [.int (zI M b 0), .int 8, .ref 108] M v M' 0 0 := Ev.back 1 (gs_3 rfl rfl (gf_i hS.1 a_b qi_21_0 rfl)) H
    have H : Ev none e 66 53 [some (.ref 104), some (.ref b), some (.int go), some (.int ha), some (.int be), some (.int le), some (.int d), c7, c8, c9] [.int ((8 * (zI M b 0)) + d), .ref 108] M v M' 0 0 := Ev.back 3 (fun n => rfl) H
    obtain ⟨b2, H⟩ := Ev.ial rfl rfl hS.1 qa_108 qw_26 H
    have H : Ev none e 66 54 [some (.ref 104), some (.ref b), some (.int go), some (.int ha), some (.int be), some (.int le), some (.int d), c7, c8, c9] [.int (rI M 108 ((8 * (zI M b 0)) + d))] M v M' 0 0 := H
    have H : Ev none e 66 (if (rI M 108 ((8 * (zI M b 0)) + d)) = (-1) then 178 else 62) [some (.ref 104), some (.ref b), some (.int go), some (.int ha), some (.int be), some (.int le), some (.int d), some (.int (rI M 108 ((8 * (zI M b 0)) + d))), c8, c9] [] M v M' 0 0 := Ev.back 4 (fun n => rfl) H
    by_cases h3 : (rI M 108 ((8 * (zI M b 0)) + d)) = (-1)
    · rw [if_pos h3] at H
      have H : Ev none e 66 29 [some (.ref 104), some (.ref b), some (.int go), some (.int ha), some (.int be), some (.int le), some (.int (d + 1)), some (.int (rI M 108 ((8 * (zI M b 0)) + d))), c8, c9] [] M v M' 0 0 := Ev.back 2 (fun n => rfl) H
      have HF := H
      exact Or.inr (Or.inl ⟨h1, h3, b2, HF⟩)
    · rw [if_neg h3] at H
      have H : Ev none e 66 63 [some (.ref 104), some (.ref b), some (.int go), some (.int ha), some (.int be), some (.int le), some (.int d), some (.int (rI M 108 ((8 * (zI M b 0)) + d))), c8, c9] [.ref 104] M v M' 0 0 := Ev.back 1 (fun n => rfl) H
      have H : Ev none e 66 66 [some (.ref 104), some (.ref b), some (.int go), some (.int ha), some (.int be), some (.int le), some (.int d), some (.int (rI M 108 ((8 * (zI M b 0)) + d))), c8, c9] [.ref (fR M 104 7)] M v M' 0 0 := Ev.back 1 (gs_3 rfl rfl (gf_r hS.1 qa_104 qr_22_7 rfl)) H
      have H : Ev none e 66 68 [some (.ref 104), some (.ref b), some (.int go), some (.int ha), some (.int be), some (.int le), some (.int d), some (.int (rI M 108 ((8 * (zI M b 0)) + d))), c8, c9] [.int (rI M 108 ((8 * (zI M b 0)) + d)), .ref (fR M 104 7)] M v M' 0 0 := Ev.back 1 (fun n => rfl) H
      obtain ⟨e1, rfl⟩ := Ev.dpos rfl rfl H
      obtain ⟨vK4, MK4, K4, H⟩ := Ev.callb (fun n_ => gs_7 rfl rfl (show gCal (.invokevirtual 225) 7 (.int (rI M 108 ((8 * (zI M b 0)) + d)) :: .ref (fR M 104 7) :: []) M = some (.inr (7, [some (.ref (fR M 104 7)), some (.int (rI M 108 ((8 * (zI M b 0)) + d)))], [])) from by show @cond (Option ((List Value × Mem) ⊕ (Nat × Lo × List Value))) (true && gRecv M (.ref (fR M 104 7)) 1 && gRoom [] && true) (some (.inr (7, [some (.ref (fR M 104 7)), some (.int (rI M 108 ((8 * (zI M b 0)) + d)))], []))) none = _; rw [recv_s hS.1 (hS.1.fr qa_104 qr_22_7).2 qo_8]; rfl)) H
      obtain ⟨pK4, qK4⟩ := g_7 hS (hS.1.fr qa_104 qr_22_7).2 K4
      rw [pK4, qK4] at H
      have H : Ev none (e1 + 1) 66 71 [some (.ref 104), some (.ref b), some (.int go), some (.int ha), some (.int be), some (.int le), some (.int d), some (.int (rI M 108 ((8 * (zI M b 0)) + d))), c8, c9] [.int (G_7 M (fR M 104 7) (rI M 108 ((8 * (zI M b 0)) + d)))] M v M' 0 0 := H
      have H : Ev none (e1 + 1) 66 (if (G_7 M (fR M 104 7) (rI M 108 ((8 * (zI M b 0)) + d))) = 0 then 74 else 77) [some (.ref 104), some (.ref b), some (.int go), some (.int ha), some (.int be), some (.int le), some (.int d), some (.int (rI M 108 ((8 * (zI M b 0)) + d))), c8, c9] [] M v M' 0 0 := Ev.back 1 (fun n => rfl) H
      by_cases h5 : (G_7 M (fR M 104 7) (rI M 108 ((8 * (zI M b 0)) + d))) = 0
      · rw [if_pos h5] at H
        have H : Ev none (e1 + 1) 66 29 [some (.ref 104), some (.ref b), some (.int go), some (.int ha), some (.int be), some (.int le), some (.int (d + 1)), some (.int (rI M 108 ((8 * (zI M b 0)) + d))), c8, c9] [] M v M' 0 0 := Ev.back 3 (fun n => rfl) H
        have HF := H
        exact Or.inr (Or.inr (Or.inl ⟨h1, h3, h5, b2, HF⟩))
      · rw [if_neg h5] at H
        have H : Ev none (e1 + 1) 66 88 [some (.ref 104), some (.ref b), some (.int go), some (.int ha), some (.int be), some (.int le), some (.int d), some (.int (rI M 108 ((8 * (zI M b 0)) + d))), some (.int ((256 * ha) + (rI M 108 ((8 * (zI M b 0)) + d)))), c9] [.ref 104] M v M' 0 0 := Ev.back 7 (fun n => rfl) H
        have H : Ev none (e1 + 1) 66 91 [some (.ref 104), some (.ref b), some (.int go), some (.int ha), some (.int be), some (.int le), some (.int d), some (.int (rI M 108 ((8 * (zI M b 0)) + d))), some (.int ((256 * ha) + (rI M 108 ((8 * (zI M b 0)) + d)))), c9] [.ref 128] M v M' 0 0 := Ev.back 1 (gs_3 rfl rfl (gf_u hS.1 qa_104 qr_22_4 qu_37 rfl)) H
        have H : Ev none (e1 + 1) 66 93 [some (.ref 104), some (.ref b), some (.int go), some (.int ha), some (.int be), some (.int le), some (.int d), some (.int (rI M 108 ((8 * (zI M b 0)) + d))), some (.int ((256 * ha) + (rI M 108 ((8 * (zI M b 0)) + d)))), c9] [.int ((256 * ha) + (rI M 108 ((8 * (zI M b 0)) + d))), .ref 128] M v M' 0 0 := Ev.back 1 (fun n => rfl) H
        obtain ⟨b6, H⟩ := Ev.ial rfl rfl hS.1 qa_128 qw_37 H
        have H : Ev none (e1 + 1) 66 94 [some (.ref 104), some (.ref b), some (.int go), some (.int ha), some (.int be), some (.int le), some (.int d), some (.int (rI M 108 ((8 * (zI M b 0)) + d))), some (.int ((256 * ha) + (rI M 108 ((8 * (zI M b 0)) + d)))), c9] [.int (rI M 128 ((256 * ha) + (rI M 108 ((8 * (zI M b 0)) + d))))] M v M' 0 0 := H
        have H : Ev none (e1 + 1) 66 (if (rI M 128 ((256 * ha) + (rI M 108 ((8 * (zI M b 0)) + d)))) = (-1) then 98 else 112) [some (.ref 104), some (.ref b), some (.int go), some (.int ha), some (.int be), some (.int le), some (.int d), some (.int (rI M 108 ((8 * (zI M b 0)) + d))), some (.int ((256 * ha) + (rI M 108 ((8 * (zI M b 0)) + d)))), c9] [] M v M' 0 0 := Ev.back 2 (fun n => rfl) H
        by_cases h7 : (rI M 128 ((256 * ha) + (rI M 108 ((8 * (zI M b 0)) + d)))) = (-1)
        · rw [if_pos h7] at H
          have H : Ev none (e1 + 1) 66 100 [some (.ref 104), some (.ref b), some (.int go), some (.int ha), some (.int be), some (.int le), some (.int d), some (.int (rI M 108 ((8 * (zI M b 0)) + d))), some (.int ((256 * ha) + (rI M 108 ((8 * (zI M b 0)) + d)))), c9] [.ref 104, .ref 104] M v M' 0 0 := Ev.back 2 (fun n => rfl) H
          have H : Ev none (e1 + 1) 66 103 [some (.ref 104), some (.ref b), some (.int go), some (.int ha), some (.int be), some (.int le), some (.int d), some (.int (rI M 108 ((8 * (zI M b 0)) + d))), some (.int ((256 * ha) + (rI M 108 ((8 * (zI M b 0)) + d)))), c9] [.ref 109, .ref 104] M v M' 0 0 := Ev.back 1 (gs_3 rfl rfl (gf_u hS.1 qa_104 qr_22_1 qu_27 rfl)) H
          have H : Ev none (e1 + 1) 66 104 [some (.ref 104), some (.ref b), some (.int go), some (.int ha), some (.int be), some (.int le), some (.int d), some (.int (rI M 108 ((8 * (zI M b 0)) + d))), some (.int ((256 * ha) + (rI M 108 ((8 * (zI M b 0)) + d)))), c9] [.int ha, .ref 109, .ref 104] M v M' 0 0 := Ev.back 1 (fun n => rfl) H
          obtain ⟨b8, H⟩ := Ev.aal rfl rfl hS.1 qa_109 qz_27 H
          have H : Ev none (e1 + 1) 66 105 [some (.ref 104), some (.ref b), some (.int go), some (.int ha), some (.int be), some (.int le), some (.int d), some (.int (rI M 108 ((8 * (zI M b 0)) + d))), some (.int ((256 * ha) + (rI M 108 ((8 * (zI M b 0)) + d)))), c9] [.ref (oI M 109 ha), .ref 104] M v M' 0 0 := H
          have H : Ev none (e1 + 1) 66 109 [some (.ref 104), some (.ref b), some (.int go), some (.int ha), some (.int be), some (.int le), some (.int d), some (.int (rI M 108 ((8 * (zI M b 0)) + d))), some (.int ((256 * ha) + (rI M 108 ((8 * (zI M b 0)) + d)))), c9] [.int (rI M 108 ((8 * (zI M b 0)) + d)), .int ((256 * ha) + (rI M 108 ((8 * (zI M b 0)) + d))), .ref (oI M 109 ha), .ref 104] M v M' 0 0 := Ev.back 2 (fun n => rfl) H
          obtain ⟨vK9, MK9, K9, H⟩ := Ev.callb (fun n_ => gs_7 rfl rfl (show gCal (.invokevirtual 228) 7 (.int (rI M 108 ((8 * (zI M b 0)) + d)) :: .int ((256 * ha) + (rI M 108 ((8 * (zI M b 0)) + d))) :: .ref (oI M 109 ha) :: .ref 104 :: []) M = some (.inr (67, [some (.ref 104), some (.ref (oI M 109 ha)), some (.int ((256 * ha) + (rI M 108 ((8 * (zI M b 0)) + d)))), some (.int (rI M 108 ((8 * (zI M b 0)) + d))), none, none], [])) from by show @cond (Option ((List Value × Mem) ⊕ (Nat × Lo × List Value))) (true && gRecv M (.ref 104) 7 && gRoom [] && true) (some (.inr (67, [some (.ref 104), some (.ref (oI M 109 ha)), some (.int ((256 * ha) + (rI M 108 ((8 * (zI M b 0)) + d)))), some (.int (rI M 108 ((8 * (zI M b 0)) + d))), none, none], []))) none = _; rw [recv_s hS.1 qa_104 qo_22]; rfl)) H
          have K9 : Ev none e1 67 0 [some (.ref 104), some (.ref (oI M 109 ha)), some (.int ((256 * ha) + (rI M 108 ((8 * (zI M b 0)) + d)))), some (.int (rI M 108 ((8 * (zI M b 0)) + d))), none, none] [] M vK9 MK9 0 0 := K9
          have HF := H
          exact Or.inr (Or.inr (Or.inr (Or.inl ⟨h1, h3, h5, h7, b2, b6, b8.1, ⟨e1, vK9, MK9, rfl, K9, HF⟩⟩)))
        · rw [if_neg h7] at H
          have HF := H
          exact Or.inr (Or.inr (Or.inr (Or.inr (⟨h1, h3, h5, h7, b2, b6, HF⟩))))
theorem chow_112 {e : Nat} {M M' : Mem} {v : Option Value} {go ha be le d c av : Int32} {b : Nat} {c9 : Option Value} (hS : SQ M) (a_b : gNth sT b = some 21) (H : Ev none e 66 112 [some (.ref 104), some (.ref b), some (.int go), some (.int ha), some (.int be), some (.int le), some (.int d), some (.int c), some (.int av), c9] [] M v M' 0 0) : ((rI M 128 av) = 1 ∧ (0 ≤ av.toInt ∧ av.toInt < 1536) ∧ Ev none e 66 29 [some (.ref 104), some (.ref b), some (.int go), some (.int ha), some (.int be), some (.int le), some (.int (d + 1)), some (.int c), some (.int av), c9] [] M v M' 0 0) ∨ (¬ ((rI M 128 av) = 1) ∧ (0 ≤ av.toInt ∧ av.toInt < 1536) ∧ (0 ≤ ha.toInt ∧ ha.toInt < 6) ∧ (∃ e1 v1 M1, e = e1 + 1 ∧ Ev none e1 68 0 [some (.ref 104), some (.ref b), some (.int av), some (.int d), some (.int (zI M (oI M 109 ha) 13)), none, none] [] M v1 M1 0 0 ∧ Ev none e 66 154 [some (.ref 104), some (.ref b), some (.int go), some (.int ha), some (.int be), some (.int le), some (.int d), some (.int c), some (.int av), c9] (v1.toList ++ [.int (G_4 M c go)]) M1 v M' 0 0)) := by
  have H : Ev none e 66 113 [some (.ref 104), some (.ref b), some (.int go), some (.int ha), some (.int be), some (.int le), some (.int d), some (.int c), some (.int av), c9] [.ref 104] M v M' 0 0 := Ev.back 1 (fun n => rfl) H
  have H : Ev none e 66 116 [some (.ref 104), some (.ref b), some (.int go), some (.int ha), some (.int be), some (.int le), some (.int d), some (.int c), some (.int av), c9] [.ref 128] M v M' 0 0 := Ev.back 1 (gs_3 rfl rfl (gf_u hS.1 qa_104 qr_22_4 qu_37 rfl)) H
  have H : Ev none e 66 118 [some (.ref 104), some (.ref b), some (.int go), some (.int ha), some (.int be), some (.int le), some (.int d), some (.int c), some (.int av), c9] [.int av, .ref 128] M v M' 0 0 := Ev.back 1 (fun n => rfl) H
  obtain ⟨b1, H⟩ := Ev.ial rfl rfl hS.1 qa_128 qw_37 H
  have H : Ev none e 66 119 [some (.ref 104), some (.ref b), some (.int go), some (.int ha), some (.int be), some (.int le), some (.int d), some (.int c), some (.int av), c9] [.int (rI M 128 av)] M v M' 0 0 := H
  have H : Ev none e 66 (if (rI M 128 av) = 1 then 123 else 126) [some (.ref 104), some (.ref b), some (.int go), some (.int ha), some (.int be), some (.int le), some (.int d), some (.int c), some (.int av), c9] [] M v M' 0 0 := Ev.back 2 (fun n => rfl) H
  by_cases h2 : (rI M 128 av) = 1
  · rw [if_pos h2] at H
    have H : Ev none e 66 29 [some (.ref 104), some (.ref b), some (.int go), some (.int ha), some (.int be), some (.int le), some (.int (d + 1)), some (.int c), some (.int av), c9] [] M v M' 0 0 := Ev.back 3 (fun n => rfl) H
    have HF := H
    exact Or.inl ⟨h2, b1, HF⟩
  · rw [if_neg h2] at H
    have H : Ev none e 66 127 [some (.ref 104), some (.ref b), some (.int go), some (.int ha), some (.int be), some (.int le), some (.int d), some (.int c), some (.int av), c9] [.ref 104] M v M' 0 0 := Ev.back 1 (fun n => rfl) H
    have H : Ev none e 66 130 [some (.ref 104), some (.ref b), some (.int go), some (.int ha), some (.int be), some (.int le), some (.int d), some (.int c), some (.int av), c9] [.ref 105] M v M' 0 0 := Ev.back 1 (gs_3 rfl rfl (gf_u hS.1 qa_104 qr_22_0 qu_23 rfl)) H
    have H : Ev none e 66 133 [some (.ref 104), some (.ref b), some (.int go), some (.int ha), some (.int be), some (.int le), some (.int d), some (.int c), some (.int av), c9] [.int go, .int c, .ref 105] M v M' 0 0 := Ev.back 2 (fun n => rfl) H
    obtain ⟨e1, rfl⟩ := Ev.dpos rfl rfl H
    obtain ⟨vK3, MK3, K3, H⟩ := Ev.callb (fun n_ => gs_7 rfl rfl (show gCal (.invokevirtual 232) 7 (.int go :: .int c :: .ref 105 :: []) M = some (.inr (4, [some (.ref 105), some (.int c), some (.int go), none, none], [])) from by show @cond (Option ((List Value × Mem) ⊕ (Nat × Lo × List Value))) (true && gRecv M (.ref 105) 0 && gRoom [] && true) (some (.inr (4, [some (.ref 105), some (.int c), some (.int go), none, none], []))) none = _; rw [recv_s hS.1 qa_105 qo_23]; rfl)) H
    obtain ⟨pK3, qK3⟩ := g_4 hS K3
    rw [pK3, qK3] at H
    have H : Ev none (e1 + 1) 66 136 [some (.ref 104), some (.ref b), some (.int go), some (.int ha), some (.int be), some (.int le), some (.int d), some (.int c), some (.int av), c9] [.int (G_4 M c go)] M v M' 0 0 := H
    have H : Ev none (e1 + 1) 66 143 [some (.ref 104), some (.ref b), some (.int go), some (.int ha), some (.int be), some (.int le), some (.int d), some (.int c), some (.int av), c9] [.ref 104, .int d, .int av, .ref b, .ref 104, .int (G_4 M c go)] M v M' 0 0 := Ev.back 5 (fun n => rfl) H
    have H : Ev none (e1 + 1) 66 146 [some (.ref 104), some (.ref b), some (.int go), some (.int ha), some (.int be), some (.int le), some (.int d), some (.int c), some (.int av), c9] [.ref 109, .int d, .int av, .ref b, .ref 104, .int (G_4 M c go)] M v M' 0 0 := Ev.back 1 (gs_3 rfl rfl (gf_u hS.1 qa_104 qr_22_1 qu_27 rfl)) H
    have H : Ev none (e1 + 1) 66 147 [some (.ref 104), some (.ref b), some (.int go), some (.int ha), some (.int be), some (.int le), some (.int d), some (.int c), some (.int av), c9] [.int ha, .ref 109, .int d, .int av, .ref b, .ref 104, .int (G_4 M c go)] M v M' 0 0 := Ev.back 1 (fun n => rfl) H
    obtain ⟨b4, H⟩ := Ev.aal rfl rfl hS.1 qa_109 qz_27 H
    have H : Ev none (e1 + 1) 66 148 [some (.ref 104), some (.ref b), some (.int go), some (.int ha), some (.int be), some (.int le), some (.int d), some (.int c), some (.int av), c9] [.ref (oI M 109 ha), .int d, .int av, .ref b, .ref 104, .int (G_4 M c go)] M v M' 0 0 := H
    have H : Ev none (e1 + 1) 66 151 [some (.ref 104), some (.ref b), some (.int go), some (.int ha), some (.int be), some (.int le), some (.int d), some (.int c), some (.int av), c9] [.int (zI M (oI M 109 ha) 13), .int d, .int av, .ref b, .ref 104, .int (G_4 M c go)] M v M' 0 0 := Ev.back 1 (gs_3 rfl rfl (gf_i hS.1 b4.2 qi_28_13 rfl)) H
    obtain ⟨vK5, MK5, K5, H⟩ := Ev.callb (fun n_ => gs_7 rfl rfl (show gCal (.invokevirtual 238) 7 (.int (zI M (oI M 109 ha) 13) :: .int d :: .int av :: .ref b :: .ref 104 :: [.int (G_4 M c go)]) M = some (.inr (68, [some (.ref 104), some (.ref b), some (.int av), some (.int d), some (.int (zI M (oI M 109 ha) 13)), none, none], [.int (G_4 M c go)])) from by show @cond (Option ((List Value × Mem) ⊕ (Nat × Lo × List Value))) (true && gRecv M (.ref 104) 7 && gRoom [.int (G_4 M c go)] && true) (some (.inr (68, [some (.ref 104), some (.ref b), some (.int av), some (.int d), some (.int (zI M (oI M 109 ha) 13)), none, none], [.int (G_4 M c go)]))) none = _; rw [recv_s hS.1 qa_104 qo_22]; rfl)) H
    have K5 : Ev none e1 68 0 [some (.ref 104), some (.ref b), some (.int av), some (.int d), some (.int (zI M (oI M 109 ha) 13)), none, none] [] M vK5 MK5 0 0 := K5
    have HF := H
    exact Or.inr (⟨h2, b1, b4.1, ⟨e1, vK5, MK5, rfl, K5, HF⟩⟩)
theorem chow_154 {e : Nat} {M M' : Mem} {v : Option Value} {go ha be le d c av y ds : Int32} {b : Nat} {c9 : Option Value} (hS : SQ M) (a_b : gNth sT b = some 21) (H : Ev none e 66 154 [some (.ref 104), some (.ref b), some (.int go), some (.int ha), some (.int be), some (.int le), some (.int d), some (.int c), some (.int av), c9] [.int y, .int ds] M v M' 0 0) : (be = (-1) ∧ Ev none e 66 29 [some (.ref 104), some (.ref b), some (.int go), some (.int ha), some (.int d), some (.int (ds + y)), some (.int (d + 1)), some (.int c), some (.int av), some (.int (ds + y))] [] M v M' 0 0) ∨ (¬ (be = (-1)) ∧ le ≤ (ds + y) ∧ Ev none e 66 29 [some (.ref 104), some (.ref b), some (.int go), some (.int ha), some (.int be), some (.int le), some (.int (d + 1)), some (.int c), some (.int av), some (.int (ds + y))] [] M v M' 0 0) ∨ (¬ (be = (-1)) ∧ ¬ (le ≤ (ds + y)) ∧ Ev none e 66 29 [some (.ref 104), some (.ref b), some (.int go), some (.int ha), some (.int d), some (.int (ds + y)), some (.int (d + 1)), some (.int c), some (.int av), some (.int (ds + y))] [] M v M' 0 0) := by
  have H : Ev none e 66 (if be = (-1) then 170 else 163) [some (.ref 104), some (.ref b), some (.int go), some (.int ha), some (.int be), some (.int le), some (.int d), some (.int c), some (.int av), some (.int (ds + y))] [] M v M' 0 0 := Ev.back 5 (fun n => rfl) H
  by_cases h1 : be = (-1)
  · rw [if_pos h1] at H
    have H : Ev none e 66 29 [some (.ref 104), some (.ref b), some (.int go), some (.int ha), some (.int d), some (.int (ds + y)), some (.int (d + 1)), some (.int c), some (.int av), some (.int (ds + y))] [] M v M' 0 0 := Ev.back 6 (fun n => rfl) H
    have HF := H
    exact Or.inl ⟨h1, HF⟩
  · rw [if_neg h1] at H
    have H : Ev none e 66 (if le ≤ (ds + y) then 178 else 170) [some (.ref 104), some (.ref b), some (.int go), some (.int ha), some (.int be), some (.int le), some (.int d), some (.int c), some (.int av), some (.int (ds + y))] [] M v M' 0 0 := Ev.back 3 (fun n => rfl) H
    by_cases h2 : le ≤ (ds + y)
    · rw [if_pos h2] at H
      have H : Ev none e 66 29 [some (.ref 104), some (.ref b), some (.int go), some (.int ha), some (.int be), some (.int le), some (.int (d + 1)), some (.int c), some (.int av), some (.int (ds + y))] [] M v M' 0 0 := Ev.back 2 (fun n => rfl) H
      have HF := H
      exact Or.inr (Or.inl ⟨h1, h2, HF⟩)
    · rw [if_neg h2] at H
      have H : Ev none e 66 29 [some (.ref 104), some (.ref b), some (.int go), some (.int ha), some (.int d), some (.int (ds + y)), some (.int (d + 1)), some (.int c), some (.int av), some (.int (ds + y))] [] M v M' 0 0 := Ev.back 6 (fun n => rfl) H
      have HF := H
      exact Or.inr (Or.inr (⟨h1, h2, HF⟩))
theorem weis_0 {e : Nat} {M M' : Mem} {v : Option Value} {av d si : Int32} (hS : SQ M) (H : Ev none e 68 0 [some (.ref 104), some (.ref 137), some (.int av), some (.int d), some (.int si), none, none] [] M v M' 0 0) : ((rI M (oI M 129 0) av) ≤ 0 ∧ (0 ≤ (0 : Int32).toInt ∧ (0 : Int32).toInt < 7) ∧ (0 ≤ av.toInt ∧ av.toInt < 1536) ∧ Ev none e 68 72 [some (.ref 104), some (.ref 137), some (.int av), some (.int d), some (.int si), some (.int (av - av / 256 * 256)), some (.int 0)] [] M v M' 0 0) ∨ (¬ ((rI M (oI M 129 0) av) ≤ 0) ∧ (G_8 M (fR M 104 7) (av - av / 256 * 256)) = 0 ∧ (0 ≤ (0 : Int32).toInt ∧ (0 : Int32).toInt < 7) ∧ (0 ≤ av.toInt ∧ av.toInt < 1536) ∧ Ev none e 68 72 [some (.ref 104), some (.ref 137), some (.int av), some (.int d), some (.int si), some (.int (av - av / 256 * 256)), some (.int 0)] [] M v M' 0 0) ∨ (¬ ((rI M (oI M 129 0) av) ≤ 0) ∧ ¬ ((G_8 M (fR M 104 7) (av - av / 256 * 256)) = 0) ∧ (0 ≤ (0 : Int32).toInt ∧ (0 : Int32).toInt < 7) ∧ (0 ≤ av.toInt ∧ av.toInt < 1536) ∧ (0 ≤ (0 : Int32).toInt ∧ (0 : Int32).toInt < 7) ∧ (0 ≤ av.toInt ∧ av.toInt < 1536) ∧ (0 ≤ (av - av / 256 * 256).toInt ∧ (av - av / 256 * 256).toInt < 256) ∧ Ev none e 68 72 [some (.ref 104), some (.ref 137), some (.int av), some (.int d), some (.int si), some (.int (av - av / 256 * 256)), some (.int (0 + ((rI M (oI M 129 0) av) * ((if 0 < ((zI M (fR M 104 2) 10) - (rI M (fR M 104 7 + 4) (av - av / 256 * 256))) then ((zI M (fR M 104 2) 10) - (rI M (fR M 104 7 + 4) (av - av / 256 * 256))) else 0) / 10))))] [] M v M' 0 0) := by
  have H : Ev none e 68 11 [some (.ref 104), some (.ref 137), some (.int av), some (.int d), some (.int si), some (.int (av - av / 256 * 256)), some (.int 0)] [.ref 104] M v M' 0 0 := Ev.back 7 (fun n => rfl) H
  have H : Ev none e 68 14 [some (.ref 104), some (.ref 137), some (.int av), some (.int d), some (.int si), some (.int (av - av / 256 * 256)), some (.int 0)] [.ref 129] M v M' 0 0 := Ev.back 1 (gs_3 rfl rfl (gf_u hS.1 qa_104 qr_22_5 qu_38 rfl)) H
  have H : Ev none e 68 15 [some (.ref 104), some (.ref 137), some (.int av), some (.int d), some (.int si), some (.int (av - av / 256 * 256)), some (.int 0)] [.int 0, .ref 129] M v M' 0 0 := Ev.back 1 (fun n => rfl) H
  obtain ⟨b1, H⟩ := Ev.aal rfl rfl hS.1 qa_129 qz_38 H
  have H : Ev none e 68 16 [some (.ref 104), some (.ref 137), some (.int av), some (.int d), some (.int si), some (.int (av - av / 256 * 256)), some (.int 0)] [.ref (oI M 129 0)] M v M' 0 0 := H
  have H : Ev none e 68 17 [some (.ref 104), some (.ref 137), some (.int av), some (.int d), some (.int si), some (.int (av - av / 256 * 256)), some (.int 0)] [.int av, .ref (oI M 129 0)] M v M' 0 0 := Ev.back 1 (fun n => rfl) H
  obtain ⟨b2, H⟩ := Ev.ial rfl rfl hS.1 b1.2 qw_39 H
  have H : Ev none e 68 18 [some (.ref 104), some (.ref 137), some (.int av), some (.int d), some (.int si), some (.int (av - av / 256 * 256)), some (.int 0)] [.int (rI M (oI M 129 0) av)] M v M' 0 0 := H
  have H : Ev none e 68 (if (rI M (oI M 129 0) av) ≤ 0 then 72 else 21) [some (.ref 104), some (.ref 137), some (.int av), some (.int d), some (.int si), some (.int (av - av / 256 * 256)), some (.int 0)] [] M v M' 0 0 := Ev.back 1 (fun n => rfl) H
  by_cases h3 : (rI M (oI M 129 0) av) ≤ 0
  · rw [if_pos h3] at H
    have HF := H
    exact Or.inl ⟨h3, b1.1, b2, HF⟩
  · rw [if_neg h3] at H
    have H : Ev none e 68 22 [some (.ref 104), some (.ref 137), some (.int av), some (.int d), some (.int si), some (.int (av - av / 256 * 256)), some (.int 0)] [.ref 104] M v M' 0 0 := Ev.back 1 (fun n => rfl) H
    have H : Ev none e 68 25 [some (.ref 104), some (.ref 137), some (.int av), some (.int d), some (.int si), some (.int (av - av / 256 * 256)), some (.int 0)] [.ref (fR M 104 7)] M v M' 0 0 := Ev.back 1 (gs_3 rfl rfl (gf_r hS.1 qa_104 qr_22_7 rfl)) H
    have H : Ev none e 68 27 [some (.ref 104), some (.ref 137), some (.int av), some (.int d), some (.int si), some (.int (av - av / 256 * 256)), some (.int 0)] [.int (av - av / 256 * 256), .ref (fR M 104 7)] M v M' 0 0 := Ev.back 1 (fun n => rfl) H
    obtain ⟨e1, rfl⟩ := Ev.dpos rfl rfl H
    obtain ⟨vK4, MK4, K4, H⟩ := Ev.callb (fun n_ => gs_7 rfl rfl (show gCal (.invokevirtual 178) 7 (.int (av - av / 256 * 256) :: .ref (fR M 104 7) :: []) M = some (.inr (8, [some (.ref (fR M 104 7)), some (.int (av - av / 256 * 256))], [])) from by show @cond (Option ((List Value × Mem) ⊕ (Nat × Lo × List Value))) (true && gRecv M (.ref (fR M 104 7)) 1 && gRoom [] && true) (some (.inr (8, [some (.ref (fR M 104 7)), some (.int (av - av / 256 * 256))], []))) none = _; rw [recv_s hS.1 (hS.1.fr qa_104 qr_22_7).2 qo_8]; rfl)) H
    obtain ⟨pK4, qK4⟩ := g_8 hS (hS.1.fr qa_104 qr_22_7).2 K4
    rw [pK4, qK4] at H
    have H : Ev none (e1 + 1) 68 30 [some (.ref 104), some (.ref 137), some (.int av), some (.int d), some (.int si), some (.int (av - av / 256 * 256)), some (.int 0)] [.int (G_8 M (fR M 104 7) (av - av / 256 * 256))] M v M' 0 0 := H
    have H : Ev none (e1 + 1) 68 (if (G_8 M (fR M 104 7) (av - av / 256 * 256)) = 0 then 72 else 33) [some (.ref 104), some (.ref 137), some (.int av), some (.int d), some (.int si), some (.int (av - av / 256 * 256)), some (.int 0)] [] M v M' 0 0 := Ev.back 1 (fun n => rfl) H
    by_cases h5 : (G_8 M (fR M 104 7) (av - av / 256 * 256)) = 0
    · rw [if_pos h5] at H
      have HF := H
      exact Or.inr (Or.inl ⟨h3, h5, b1.1, b2, HF⟩)
    · rw [if_neg h5] at H
      have H : Ev none (e1 + 1) 68 36 [some (.ref 104), some (.ref 137), some (.int av), some (.int d), some (.int si), some (.int (av - av / 256 * 256)), some (.int 0)] [.ref 104, .int 0] M v M' 0 0 := Ev.back 2 (fun n => rfl) H
      have H : Ev none (e1 + 1) 68 39 [some (.ref 104), some (.ref 137), some (.int av), some (.int d), some (.int si), some (.int (av - av / 256 * 256)), some (.int 0)] [.ref 129, .int 0] M v M' 0 0 := Ev.back 1 (gs_3 rfl rfl (gf_u hS.1 qa_104 qr_22_5 qu_38 rfl)) H
      have H : Ev none (e1 + 1) 68 40 [some (.ref 104), some (.ref 137), some (.int av), some (.int d), some (.int si), some (.int (av - av / 256 * 256)), some (.int 0)] [.int 0, .ref 129, .int 0] M v M' 0 0 := Ev.back 1 (fun n => rfl) H
      obtain ⟨b6, H⟩ := Ev.aal rfl rfl hS.1 qa_129 qz_38 H
      have H : Ev none (e1 + 1) 68 41 [some (.ref 104), some (.ref 137), some (.int av), some (.int d), some (.int si), some (.int (av - av / 256 * 256)), some (.int 0)] [.ref (oI M 129 0), .int 0] M v M' 0 0 := H
      have H : Ev none (e1 + 1) 68 42 [some (.ref 104), some (.ref 137), some (.int av), some (.int d), some (.int si), some (.int (av - av / 256 * 256)), some (.int 0)] [.int av, .ref (oI M 129 0), .int 0] M v M' 0 0 := Ev.back 1 (fun n => rfl) H
      obtain ⟨b7, H⟩ := Ev.ial rfl rfl hS.1 b6.2 qw_39 H
      have H : Ev none (e1 + 1) 68 43 [some (.ref 104), some (.ref 137), some (.int av), some (.int d), some (.int si), some (.int (av - av / 256 * 256)), some (.int 0)] [.int (rI M (oI M 129 0) av), .int 0] M v M' 0 0 := H
      have H : Ev none (e1 + 1) 68 45 [some (.ref 104), some (.ref 137), some (.int av), some (.int d), some (.int si), some (.int (av - av / 256 * 256)), some (.int 0)] [.ref 104, .int 0, .int (rI M (oI M 129 0) av), .int 0] M v M' 0 0 := Ev.back 2 (fun n => rfl) H
      have H : Ev none (e1 + 1) 68 48 [some (.ref 104), some (.ref 137), some (.int av), some (.int d), some (.int si), some (.int (av - av / 256 * 256)), some (.int 0)] [.ref (fR M 104 2), .int 0, .int (rI M (oI M 129 0) av), .int 0] M v M' 0 0 := Ev.back 1 (gs_3 rfl rfl (gf_r hS.1 qa_104 qr_22_2 rfl)) H
      have H : Ev none (e1 + 1) 68 51 [some (.ref 104), some (.ref 137), some (.int av), some (.int d), some (.int si), some (.int (av - av / 256 * 256)), some (.int 0)] [.int (zI M (fR M 104 2) 10), .int 0, .int (rI M (oI M 129 0) av), .int 0] M v M' 0 0 := Ev.back 1 (gs_3 rfl rfl (gf_i hS.1 (hS.1.fr qa_104 qr_22_2).2 qi_28_10 rfl)) H
      have H : Ev none (e1 + 1) 68 52 [some (.ref 104), some (.ref 137), some (.int av), some (.int d), some (.int si), some (.int (av - av / 256 * 256)), some (.int 0)] [.ref 104, .int (zI M (fR M 104 2) 10), .int 0, .int (rI M (oI M 129 0) av), .int 0] M v M' 0 0 := Ev.back 1 (fun n => rfl) H
      have H : Ev none (e1 + 1) 68 55 [some (.ref 104), some (.ref 137), some (.int av), some (.int d), some (.int si), some (.int (av - av / 256 * 256)), some (.int 0)] [.ref (fR M 104 7), .int (zI M (fR M 104 2) 10), .int 0, .int (rI M (oI M 129 0) av), .int 0] M v M' 0 0 := Ev.back 1 (gs_3 rfl rfl (gf_r hS.1 qa_104 qr_22_7 rfl)) H
      have H : Ev none (e1 + 1) 68 58 [some (.ref 104), some (.ref 137), some (.int av), some (.int d), some (.int si), some (.int (av - av / 256 * 256)), some (.int 0)] [.ref (fR M 104 7 + 4), .int (zI M (fR M 104 2) 10), .int 0, .int (rI M (oI M 129 0) av), .int 0] M v M' 0 0 := Ev.back 1 (gs_3 rfl rfl (gf_x hS.1 (hS.1.fr qa_104 qr_22_7).2 qo_8 (fx_l5 hS (hS.1.fr qa_104 qr_22_7).2) rfl)) H
      have H : Ev none (e1 + 1) 68 60 [some (.ref 104), some (.ref 137), some (.int av), some (.int d), some (.int si), some (.int (av - av / 256 * 256)), some (.int 0)] [.int (av - av / 256 * 256), .ref (fR M 104 7 + 4), .int (zI M (fR M 104 2) 10), .int 0, .int (rI M (oI M 129 0) av), .int 0] M v M' 0 0 := Ev.back 1 (fun n => rfl) H
      obtain ⟨b8, H⟩ := Ev.ial rfl rfl hS.1 (fx_h5 (hS.1.fr qa_104 qr_22_7).2) qw_12 H
      have H : Ev none (e1 + 1) 68 61 [some (.ref 104), some (.ref 137), some (.int av), some (.int d), some (.int si), some (.int (av - av / 256 * 256)), some (.int 0)] [.int (rI M (fR M 104 7 + 4) (av - av / 256 * 256)), .int (zI M (fR M 104 2) 10), .int 0, .int (rI M (oI M 129 0) av), .int 0] M v M' 0 0 := H
      have H : Ev none (e1 + 1) 68 72 [some (.ref 104), some (.ref 137), some (.int av), some (.int d), some (.int si), some (.int (av - av / 256 * 256)), some (.int (0 + ((rI M (oI M 129 0) av) * ((if 0 < ((zI M (fR M 104 2) 10) - (rI M (fR M 104 7 + 4) (av - av / 256 * 256))) then ((zI M (fR M 104 2) 10) - (rI M (fR M 104 7 + 4) (av - av / 256 * 256))) else 0) / 10))))] [] M v M' 0 0 := Ev.back 7 (fun n => rfl) H
      have HF := H
      exact Or.inr (Or.inr (⟨h3, h5, b1.1, b2, b6.1, b7, b8, HF⟩))
theorem weis_72 {e : Nat} {M M' : Mem} {v : Option Value} {av d si c wt : Int32} (hS : SQ M) (H : Ev none e 68 72 [some (.ref 104), some (.ref 137), some (.int av), some (.int d), some (.int si), some (.int c), some (.int wt)] [] M v M' 0 0) : (0 ≤ (1 : Int32).toInt ∧ (1 : Int32).toInt < 7) ∧ (0 ≤ av.toInt ∧ av.toInt < 1536) ∧ (0 ≤ c.toInt ∧ c.toInt < 256) ∧ (0 ≤ (2 : Int32).toInt ∧ (2 : Int32).toInt < 7) ∧ (0 ≤ av.toInt ∧ av.toInt < 1536) ∧ (0 ≤ c.toInt ∧ c.toInt < 256) ∧ (0 ≤ (zI M 137 0).toInt ∧ (zI M 137 0).toInt < 256) ∧ Ev none e 68 139 [some (.ref 104), some (.ref 137), some (.int av), some (.int d), some (.int si), some (.int c), some (.int ((wt + ((rI M (oI M 129 1) av) * ((rI M (fR M 104 7 + 5) c) / 10))) + ((rI M (oI M 129 2) av) * (if 0 ≤ ((rI M (fR M 104 7 + 3) c) - (rI M (fR M 104 7 + 3) (zI M 137 0))) then ((rI M (fR M 104 7 + 3) c) - (rI M (fR M 104 7 + 3) (zI M 137 0))) else 0 - ((rI M (fR M 104 7 + 3) c) - (rI M (fR M 104 7 + 3) (zI M 137 0)))))))] [] M v M' 0 0 := by
  have H : Ev none e 68 75 [some (.ref 104), some (.ref 137), some (.int av), some (.int d), some (.int si), some (.int c), some (.int wt)] [.ref 104, .int wt] M v M' 0 0 := Ev.back 2 (fun n => rfl) H
  have H : Ev none e 68 78 [some (.ref 104), some (.ref 137), some (.int av), some (.int d), some (.int si), some (.int c), some (.int wt)] [.ref 129, .int wt] M v M' 0 0 := Ev.back 1 (gs_3 rfl rfl (gf_u hS.1 qa_104 qr_22_5 qu_38 rfl)) H
  have H : Ev none e 68 79 [some (.ref 104), some (.ref 137), some (.int av), some (.int d), some (.int si), some (.int c), some (.int wt)] [.int 1, .ref 129, .int wt] M v M' 0 0 := Ev.back 1 (fun n => rfl) H
  obtain ⟨b1, H⟩ := Ev.aal rfl rfl hS.1 qa_129 qz_38 H
  have H : Ev none e 68 80 [some (.ref 104), some (.ref 137), some (.int av), some (.int d), some (.int si), some (.int c), some (.int wt)] [.ref (oI M 129 1), .int wt] M v M' 0 0 := H
  have H : Ev none e 68 81 [some (.ref 104), some (.ref 137), some (.int av), some (.int d), some (.int si), some (.int c), some (.int wt)] [.int av, .ref (oI M 129 1), .int wt] M v M' 0 0 := Ev.back 1 (fun n => rfl) H
  obtain ⟨b2, H⟩ := Ev.ial rfl rfl hS.1 b1.2 qw_39 H
  have H : Ev none e 68 82 [some (.ref 104), some (.ref 137), some (.int av), some (.int d), some (.int si), some (.int c), some (.int wt)] [.int (rI M (oI M 129 1) av), .int wt] M v M' 0 0 := H
  have H : Ev none e 68 83 [some (.ref 104), some (.ref 137), some (.int av), some (.int d), some (.int si), some (.int c), some (.int wt)] [.ref 104, .int (rI M (oI M 129 1) av), .int wt] M v M' 0 0 := Ev.back 1 (fun n => rfl) H
  have H : Ev none e 68 86 [some (.ref 104), some (.ref 137), some (.int av), some (.int d), some (.int si), some (.int c), some (.int wt)] [.ref (fR M 104 7), .int (rI M (oI M 129 1) av), .int wt] M v M' 0 0 := Ev.back 1 (gs_3 rfl rfl (gf_r hS.1 qa_104 qr_22_7 rfl)) H
  have H : Ev none e 68 89 [some (.ref 104), some (.ref 137), some (.int av), some (.int d), some (.int si), some (.int c), some (.int wt)] [.ref (fR M 104 7 + 5), .int (rI M (oI M 129 1) av), .int wt] M v M' 0 0 := Ev.back 1 (gs_3 rfl rfl (gf_x hS.1 (hS.1.fr qa_104 qr_22_7).2 qo_8 (fx_l6 hS (hS.1.fr qa_104 qr_22_7).2) rfl)) H
  have H : Ev none e 68 91 [some (.ref 104), some (.ref 137), some (.int av), some (.int d), some (.int si), some (.int c), some (.int wt)] [.int c, .ref (fR M 104 7 + 5), .int (rI M (oI M 129 1) av), .int wt] M v M' 0 0 := Ev.back 1 (fun n => rfl) H
  obtain ⟨b3, H⟩ := Ev.ial rfl rfl hS.1 (fx_h6 (hS.1.fr qa_104 qr_22_7).2) qw_13 H
  have H : Ev none e 68 92 [some (.ref 104), some (.ref 137), some (.int av), some (.int d), some (.int si), some (.int c), some (.int wt)] [.int (rI M (fR M 104 7 + 5) c), .int (rI M (oI M 129 1) av), .int wt] M v M' 0 0 := H
  have H : Ev none e 68 102 [some (.ref 104), some (.ref 137), some (.int av), some (.int d), some (.int si), some (.int c), some (.int (wt + ((rI M (oI M 129 1) av) * ((rI M (fR M 104 7 + 5) c) / 10))))] [.ref 104, .int (wt + ((rI M (oI M 129 1) av) * ((rI M (fR M 104 7 + 5) c) / 10)))] M v M' 0 0 := Ev.back 7 (fun n => rfl) H
  have H : Ev none e 68 105 [some (.ref 104), some (.ref 137), some (.int av), some (.int d), some (.int si), some (.int c), some (.int (wt + ((rI M (oI M 129 1) av) * ((rI M (fR M 104 7 + 5) c) / 10))))] [.ref 129, .int (wt + ((rI M (oI M 129 1) av) * ((rI M (fR M 104 7 + 5) c) / 10)))] M v M' 0 0 := Ev.back 1 (gs_3 rfl rfl (gf_u hS.1 qa_104 qr_22_5 qu_38 rfl)) H
  have H : Ev none e 68 106 [some (.ref 104), some (.ref 137), some (.int av), some (.int d), some (.int si), some (.int c), some (.int (wt + ((rI M (oI M 129 1) av) * ((rI M (fR M 104 7 + 5) c) / 10))))] [.int 2, .ref 129, .int (wt + ((rI M (oI M 129 1) av) * ((rI M (fR M 104 7 + 5) c) / 10)))] M v M' 0 0 := Ev.back 1 (fun n => rfl) H
  obtain ⟨b4, H⟩ := Ev.aal rfl rfl hS.1 qa_129 qz_38 H
  have H : Ev none e 68 107 [some (.ref 104), some (.ref 137), some (.int av), some (.int d), some (.int si), some (.int c), some (.int (wt + ((rI M (oI M 129 1) av) * ((rI M (fR M 104 7 + 5) c) / 10))))] [.ref (oI M 129 2), .int (wt + ((rI M (oI M 129 1) av) * ((rI M (fR M 104 7 + 5) c) / 10)))] M v M' 0 0 := H
  have H : Ev none e 68 108 [some (.ref 104), some (.ref 137), some (.int av), some (.int d), some (.int si), some (.int c), some (.int (wt + ((rI M (oI M 129 1) av) * ((rI M (fR M 104 7 + 5) c) / 10))))] [.int av, .ref (oI M 129 2), .int (wt + ((rI M (oI M 129 1) av) * ((rI M (fR M 104 7 + 5) c) / 10)))] M v M' 0 0 := Ev.back 1 (fun n => rfl) H
  obtain ⟨b5, H⟩ := Ev.ial rfl rfl hS.1 b4.2 qw_39 H
  have H : Ev none e 68 109 [some (.ref 104), some (.ref 137), some (.int av), some (.int d), some (.int si), some (.int c), some (.int (wt + ((rI M (oI M 129 1) av) * ((rI M (fR M 104 7 + 5) c) / 10))))] [.int (rI M (oI M 129 2) av), .int (wt + ((rI M (oI M 129 1) av) * ((rI M (fR M 104 7 + 5) c) / 10)))] M v M' 0 0 := H
  have H : Ev none e 68 110 [some (.ref 104), some (.ref 137), some (.int av), some (.int d), some (.int si), some (.int c), some (.int (wt + ((rI M (oI M 129 1) av) * ((rI M (fR M 104 7 + 5) c) / 10))))] [.ref 104, .int (rI M (oI M 129 2) av), .int (wt + ((rI M (oI M 129 1) av) * ((rI M (fR M 104 7 + 5) c) / 10)))] M v M' 0 0 := Ev.back 1 (fun n => rfl) H
  have H : Ev none e 68 113 [some (.ref 104), some (.ref 137), some (.int av), some (.int d), some (.int si), some (.int c), some (.int (wt + ((rI M (oI M 129 1) av) * ((rI M (fR M 104 7 + 5) c) / 10))))] [.ref (fR M 104 7), .int (rI M (oI M 129 2) av), .int (wt + ((rI M (oI M 129 1) av) * ((rI M (fR M 104 7 + 5) c) / 10)))] M v M' 0 0 := Ev.back 1 (gs_3 rfl rfl (gf_r hS.1 qa_104 qr_22_7 rfl)) H
  have H : Ev none e 68 116 [some (.ref 104), some (.ref 137), some (.int av), some (.int d), some (.int si), some (.int c), some (.int (wt + ((rI M (oI M 129 1) av) * ((rI M (fR M 104 7 + 5) c) / 10))))] [.ref (fR M 104 7 + 3), .int (rI M (oI M 129 2) av), .int (wt + ((rI M (oI M 129 1) av) * ((rI M (fR M 104 7 + 5) c) / 10)))] M v M' 0 0 := Ev.back 1 (gs_3 rfl rfl (gf_x hS.1 (hS.1.fr qa_104 qr_22_7).2 qo_8 (fx_l4 hS (hS.1.fr qa_104 qr_22_7).2) rfl)) H
  have H : Ev none e 68 118 [some (.ref 104), some (.ref 137), some (.int av), some (.int d), some (.int si), some (.int c), some (.int (wt + ((rI M (oI M 129 1) av) * ((rI M (fR M 104 7 + 5) c) / 10))))] [.int c, .ref (fR M 104 7 + 3), .int (rI M (oI M 129 2) av), .int (wt + ((rI M (oI M 129 1) av) * ((rI M (fR M 104 7 + 5) c) / 10)))] M v M' 0 0 := Ev.back 1 (fun n => rfl) H
  obtain ⟨b6, H⟩ := Ev.ial rfl rfl hS.1 (fx_h4 (hS.1.fr qa_104 qr_22_7).2) qw_11 H
  have H : Ev none e 68 119 [some (.ref 104), some (.ref 137), some (.int av), some (.int d), some (.int si), some (.int c), some (.int (wt + ((rI M (oI M 129 1) av) * ((rI M (fR M 104 7 + 5) c) / 10))))] [.int (rI M (fR M 104 7 + 3) c), .int (rI M (oI M 129 2) av), .int (wt + ((rI M (oI M 129 1) av) * ((rI M (fR M 104 7 + 5) c) / 10)))] M v M' 0 0 := H
  have H : Ev none e 68 120 [some (.ref 104), some (.ref 137), some (.int av), some (.int d), some (.int si), some (.int c), some (.int (wt + ((rI M (oI M 129 1) av) * ((rI M (fR M 104 7 + 5) c) / 10))))] [.ref 104, .int (rI M (fR M 104 7 + 3) c), .int (rI M (oI M 129 2) av), .int (wt + ((rI M (oI M 129 1) av) * ((rI M (fR M 104 7 + 5) c) / 10)))] M v M' 0 0 := Ev.back 1 (fun n => rfl) H
  have H : Ev none e 68 123 [some (.ref 104), some (.ref 137), some (.int av), some (.int d), some (.int si), some (.int c), some (.int (wt + ((rI M (oI M 129 1) av) * ((rI M (fR M 104 7 + 5) c) / 10))))] [.ref (fR M 104 7), .int (rI M (fR M 104 7 + 3) c), .int (rI M (oI M 129 2) av), .int (wt + ((rI M (oI M 129 1) av) * ((rI M (fR M 104 7 + 5) c) / 10)))] M v M' 0 0 := Ev.back 1 (gs_3 rfl rfl (gf_r hS.1 qa_104 qr_22_7 rfl)) H
  have H : Ev none e 68 126 [some (.ref 104), some (.ref 137), some (.int av), some (.int d), some (.int si), some (.int c), some (.int (wt + ((rI M (oI M 129 1) av) * ((rI M (fR M 104 7 + 5) c) / 10))))] [.ref (fR M 104 7 + 3), .int (rI M (fR M 104 7 + 3) c), .int (rI M (oI M 129 2) av), .int (wt + ((rI M (oI M 129 1) av) * ((rI M (fR M 104 7 + 5) c) / 10)))] M v M' 0 0 := Ev.back 1 (gs_3 rfl rfl (gf_x hS.1 (hS.1.fr qa_104 qr_22_7).2 qo_8 (fx_l4 hS (hS.1.fr qa_104 qr_22_7).2) rfl)) H
  have H : Ev none e 68 127 [some (.ref 104), some (.ref 137), some (.int av), some (.int d), some (.int si), some (.int c), some (.int (wt + ((rI M (oI M 129 1) av) * ((rI M (fR M 104 7 + 5) c) / 10))))] [.ref 137, .ref (fR M 104 7 + 3), .int (rI M (fR M 104 7 + 3) c), .int (rI M (oI M 129 2) av), .int (wt + ((rI M (oI M 129 1) av) * ((rI M (fR M 104 7 + 5) c) / 10)))] M v M' 0 0 := Ev.back 1 (fun n => rfl) H
  have H : Ev none e 68 130 [some (.ref 104), some (.ref 137), some (.int av), some (.int d), some (.int si), some (.int c), some (.int (wt + ((rI M (oI M 129 1) av) * ((rI M (fR M 104 7 + 5) c) / 10))))] [.int (zI M 137 0), .ref (fR M 104 7 + 3), .int (rI M (fR M 104 7 + 3) c), .int (rI M (oI M 129 2) av), .int (wt + ((rI M (oI M 129 1) av) * ((rI M (fR M 104 7 + 5) c) / 10)))] M v M' 0 0 := Ev.back 1 (gs_3 rfl rfl (gf_i hS.1 qa_137 qi_40_0 rfl)) H
  obtain ⟨b7, H⟩ := Ev.ial rfl rfl hS.1 (fx_h4 (hS.1.fr qa_104 qr_22_7).2) qw_11 H
  have H : Ev none e 68 131 [some (.ref 104), some (.ref 137), some (.int av), some (.int d), some (.int si), some (.int c), some (.int (wt + ((rI M (oI M 129 1) av) * ((rI M (fR M 104 7 + 5) c) / 10))))] [.int (rI M (fR M 104 7 + 3) (zI M 137 0)), .int (rI M (fR M 104 7 + 3) c), .int (rI M (oI M 129 2) av), .int (wt + ((rI M (oI M 129 1) av) * ((rI M (fR M 104 7 + 5) c) / 10)))] M v M' 0 0 := H
  have H : Ev none e 68 132 [some (.ref 104), some (.ref 137), some (.int av), some (.int d), some (.int si), some (.int c), some (.int (wt + ((rI M (oI M 129 1) av) * ((rI M (fR M 104 7 + 5) c) / 10))))] [.int ((rI M (fR M 104 7 + 3) c) - (rI M (fR M 104 7 + 3) (zI M 137 0))), .int (rI M (oI M 129 2) av), .int (wt + ((rI M (oI M 129 1) av) * ((rI M (fR M 104 7 + 5) c) / 10)))] M v M' 0 0 := Ev.back 1 (fun n => rfl) H
  obtain ⟨e1, rfl⟩ := Ev.dpos rfl rfl H
  have H : Ev none (e1 + 1) 68 139 [some (.ref 104), some (.ref 137), some (.int av), some (.int d), some (.int si), some (.int c), some (.int ((wt + ((rI M (oI M 129 1) av) * ((rI M (fR M 104 7 + 5) c) / 10))) + ((rI M (oI M 129 2) av) * (if 0 ≤ ((rI M (fR M 104 7 + 3) c) - (rI M (fR M 104 7 + 3) (zI M 137 0))) then ((rI M (fR M 104 7 + 3) c) - (rI M (fR M 104 7 + 3) (zI M 137 0))) else 0 - ((rI M (fR M 104 7 + 3) c) - (rI M (fR M 104 7 + 3) (zI M 137 0)))))))] [] M v M' 0 0 := Ev.back 4 (fun n => rfl) H
  have HF := H
  exact ⟨b1.1, b2, b3, b4.1, b5, b6, b7, HF⟩
theorem weis_139 {e : Nat} {M M' : Mem} {v : Option Value} {av d si c wt : Int32} (hS : SQ M) (H : Ev none e 68 139 [some (.ref 104), some (.ref 137), some (.int av), some (.int d), some (.int si), some (.int c), some (.int wt)] [] M v M' 0 0) : ((zI M 104 8) = 0 ∧ (0 ≤ (3 : Int32).toInt ∧ (3 : Int32).toInt < 7) ∧ (0 ≤ av.toInt ∧ av.toInt < 1536) ∧ (0 ≤ c.toInt ∧ c.toInt < 256) ∧ Ev none e 68 174 [some (.ref 104), some (.ref 137), some (.int av), some (.int d), some (.int si), some (.int c), some (.int (wt + ((rI M (oI M 129 3) av) * (rI M (fR M 104 7 + 8) c))))] [] M v M' 0 0) ∨ (¬ ((zI M 104 8) = 0) ∧ Ev none e 68 174 [some (.ref 104), some (.ref 137), some (.int av), some (.int d), some (.int si), some (.int c), some (.int (wt + 0))] [] M v M' 0 0) := by
  have H : Ev none e 68 142 [some (.ref 104), some (.ref 137), some (.int av), some (.int d), some (.int si), some (.int c), some (.int wt)] [.ref 104, .int wt] M v M' 0 0 := Ev.back 2 (fun n => rfl) H
  have H : Ev none e 68 145 [some (.ref 104), some (.ref 137), some (.int av), some (.int d), some (.int si), some (.int c), some (.int wt)] [.int (zI M 104 8), .int wt] M v M' 0 0 := Ev.back 1 (gs_3 rfl rfl (gf_i hS.1 qa_104 qi_22_8 rfl)) H
  have H : Ev none e 68 (if (zI M 104 8) = 0 then 152 else 148) [some (.ref 104), some (.ref 137), some (.int av), some (.int d), some (.int si), some (.int c), some (.int wt)] [.int wt] M v M' 0 0 := Ev.back 1 (fun n => rfl) H
  by_cases h1 : (zI M 104 8) = 0
  · rw [if_pos h1] at H
    have H : Ev none e 68 153 [some (.ref 104), some (.ref 137), some (.int av), some (.int d), some (.int si), some (.int c), some (.int wt)] [.ref 104, .int wt] M v M' 0 0 := Ev.back 1 (fun n => rfl) H
    have H : Ev none e 68 156 [some (.ref 104), some (.ref 137), some (.int av), some (.int d), some (.int si), some (.int c), some (.int wt)] [.ref 129, .int wt] M v M' 0 0 := Ev.back 1 (gs_3 rfl rfl (gf_u hS.1 qa_104 qr_22_5 qu_38 rfl)) H
    have H : Ev none e 68 157 [some (.ref 104), some (.ref 137), some (.int av), some (.int d), some (.int si), some (.int c), some (.int wt)] [.int 3, .ref 129, .int wt] M v M' 0 0 := Ev.back 1 (fun n => rfl) H
    obtain ⟨b2, H⟩ := Ev.aal rfl rfl hS.1 qa_129 qz_38 H
    have H : Ev none e 68 158 [some (.ref 104), some (.ref 137), some (.int av), some (.int d), some (.int si), some (.int c), some (.int wt)] [.ref (oI M 129 3), .int wt] M v M' 0 0 := H
    have H : Ev none e 68 159 [some (.ref 104), some (.ref 137), some (.int av), some (.int d), some (.int si), some (.int c), some (.int wt)] [.int av, .ref (oI M 129 3), .int wt] M v M' 0 0 := Ev.back 1 (fun n => rfl) H
    obtain ⟨b3, H⟩ := Ev.ial rfl rfl hS.1 b2.2 qw_39 H
    have H : Ev none e 68 160 [some (.ref 104), some (.ref 137), some (.int av), some (.int d), some (.int si), some (.int c), some (.int wt)] [.int (rI M (oI M 129 3) av), .int wt] M v M' 0 0 := H
    have H : Ev none e 68 161 [some (.ref 104), some (.ref 137), some (.int av), some (.int d), some (.int si), some (.int c), some (.int wt)] [.ref 104, .int (rI M (oI M 129 3) av), .int wt] M v M' 0 0 := Ev.back 1 (fun n => rfl) H
    have H : Ev none e 68 164 [some (.ref 104), some (.ref 137), some (.int av), some (.int d), some (.int si), some (.int c), some (.int wt)] [.ref (fR M 104 7), .int (rI M (oI M 129 3) av), .int wt] M v M' 0 0 := Ev.back 1 (gs_3 rfl rfl (gf_r hS.1 qa_104 qr_22_7 rfl)) H
    have H : Ev none e 68 167 [some (.ref 104), some (.ref 137), some (.int av), some (.int d), some (.int si), some (.int c), some (.int wt)] [.ref (fR M 104 7 + 8), .int (rI M (oI M 129 3) av), .int wt] M v M' 0 0 := Ev.back 1 (gs_3 rfl rfl (gf_x hS.1 (hS.1.fr qa_104 qr_22_7).2 qo_8 (fx_l9 hS (hS.1.fr qa_104 qr_22_7).2) rfl)) H
    have H : Ev none e 68 169 [some (.ref 104), some (.ref 137), some (.int av), some (.int d), some (.int si), some (.int c), some (.int wt)] [.int c, .ref (fR M 104 7 + 8), .int (rI M (oI M 129 3) av), .int wt] M v M' 0 0 := Ev.back 1 (fun n => rfl) H
    obtain ⟨b4, H⟩ := Ev.ial rfl rfl hS.1 (fx_h9 (hS.1.fr qa_104 qr_22_7).2) qw_16 H
    have H : Ev none e 68 170 [some (.ref 104), some (.ref 137), some (.int av), some (.int d), some (.int si), some (.int c), some (.int wt)] [.int (rI M (fR M 104 7 + 8) c), .int (rI M (oI M 129 3) av), .int wt] M v M' 0 0 := H
    have H : Ev none e 68 174 [some (.ref 104), some (.ref 137), some (.int av), some (.int d), some (.int si), some (.int c), some (.int (wt + ((rI M (oI M 129 3) av) * (rI M (fR M 104 7 + 8) c))))] [] M v M' 0 0 := Ev.back 3 (fun n => rfl) H
    have HF := H
    exact Or.inl ⟨h1, b2.1, b3, b4, HF⟩
  · rw [if_neg h1] at H
    have H : Ev none e 68 174 [some (.ref 104), some (.ref 137), some (.int av), some (.int d), some (.int si), some (.int c), some (.int (wt + 0))] [] M v M' 0 0 := Ev.back 4 (fun n => rfl) H
    have HF := H
    exact Or.inr (⟨h1, HF⟩)
theorem weis_174 {e : Nat} {M M' : Mem} {v : Option Value} {av d si c wt : Int32} (hS : SQ M) (H : Ev none e 68 174 [some (.ref 104), some (.ref 137), some (.int av), some (.int d), some (.int si), some (.int c), some (.int wt)] [] M v M' 0 0) : ((zI M 137 4) = (-1) ∧ Ev none e 68 207 [some (.ref 104), some (.ref 137), some (.int av), some (.int d), some (.int si), some (.int c), some (.int (wt + 0))] [] M v M' 0 0) ∨ (¬ ((zI M 137 4) = (-1)) ∧ (zI M 137 4) = d ∧ Ev none e 68 207 [some (.ref 104), some (.ref 137), some (.int av), some (.int d), some (.int si), some (.int c), some (.int (wt + 0))] [] M v M' 0 0) ∨ (¬ ((zI M 137 4) = (-1)) ∧ ¬ ((zI M 137 4) = d) ∧ (0 ≤ (4 : Int32).toInt ∧ (4 : Int32).toInt < 7) ∧ (0 ≤ av.toInt ∧ av.toInt < 1536) ∧ Ev none e 68 207 [some (.ref 104), some (.ref 137), some (.int av), some (.int d), some (.int si), some (.int c), some (.int (wt + (rI M (oI M 129 4) av)))] [] M v M' 0 0) := by
  have H : Ev none e 68 177 [some (.ref 104), some (.ref 137), some (.int av), some (.int d), some (.int si), some (.int c), some (.int wt)] [.ref 137, .int wt] M v M' 0 0 := Ev.back 2 (fun n => rfl) H
  have H : Ev none e 68 180 [some (.ref 104), some (.ref 137), some (.int av), some (.int d), some (.int si), some (.int c), some (.int wt)] [.int (zI M 137 4), .int wt] M v M' 0 0 := Ev.back 1 (gs_3 rfl rfl (gf_i hS.1 qa_137 qi_40_4 rfl)) H
  have H : Ev none e 68 (if (zI M 137 4) = (-1) then 203 else 184) [some (.ref 104), some (.ref 137), some (.int av), some (.int d), some (.int si), some (.int c), some (.int wt)] [.int wt] M v M' 0 0 := Ev.back 2 (fun n => rfl) H
  by_cases h1 : (zI M 137 4) = (-1)
  · rw [if_pos h1] at H
    have H : Ev none e 68 207 [some (.ref 104), some (.ref 137), some (.int av), some (.int d), some (.int si), some (.int c), some (.int (wt + 0))] [] M v M' 0 0 := Ev.back 3 (fun n => rfl) H
    have HF := H
    exact Or.inl ⟨h1, HF⟩
  · rw [if_neg h1] at H
    have H : Ev none e 68 185 [some (.ref 104), some (.ref 137), some (.int av), some (.int d), some (.int si), some (.int c), some (.int wt)] [.ref 137, .int wt] M v M' 0 0 := Ev.back 1 (fun n => rfl) H
    have H : Ev none e 68 188 [some (.ref 104), some (.ref 137), some (.int av), some (.int d), some (.int si), some (.int c), some (.int wt)] [.int (zI M 137 4), .int wt] M v M' 0 0 := Ev.back 1 (gs_3 rfl rfl (gf_i hS.1 qa_137 qi_40_4 rfl)) H
    have H : Ev none e 68 (if (zI M 137 4) = d then 203 else 192) [some (.ref 104), some (.ref 137), some (.int av), some (.int d), some (.int si), some (.int c), some (.int wt)] [.int wt] M v M' 0 0 := Ev.back 2 (fun n => rfl) H
    by_cases h2 : (zI M 137 4) = d
    · rw [if_pos h2] at H
      have H : Ev none e 68 207 [some (.ref 104), some (.ref 137), some (.int av), some (.int d), some (.int si), some (.int c), some (.int (wt + 0))] [] M v M' 0 0 := Ev.back 3 (fun n => rfl) H
      have HF := H
      exact Or.inr (Or.inl ⟨h1, h2, HF⟩)
    · rw [if_neg h2] at H
      have H : Ev none e 68 193 [some (.ref 104), some (.ref 137), some (.int av), some (.int d), some (.int si), some (.int c), some (.int wt)] [.ref 104, .int wt] M v M' 0 0 := Ev.back 1 (fun n => rfl) H
      have H : Ev none e 68 196 [some (.ref 104), some (.ref 137), some (.int av), some (.int d), some (.int si), some (.int c), some (.int wt)] [.ref 129, .int wt] M v M' 0 0 := Ev.back 1 (gs_3 rfl rfl (gf_u hS.1 qa_104 qr_22_5 qu_38 rfl)) H
      have H : Ev none e 68 197 [some (.ref 104), some (.ref 137), some (.int av), some (.int d), some (.int si), some (.int c), some (.int wt)] [.int 4, .ref 129, .int wt] M v M' 0 0 := Ev.back 1 (fun n => rfl) H
      obtain ⟨b3, H⟩ := Ev.aal rfl rfl hS.1 qa_129 qz_38 H
      have H : Ev none e 68 198 [some (.ref 104), some (.ref 137), some (.int av), some (.int d), some (.int si), some (.int c), some (.int wt)] [.ref (oI M 129 4), .int wt] M v M' 0 0 := H
      have H : Ev none e 68 199 [some (.ref 104), some (.ref 137), some (.int av), some (.int d), some (.int si), some (.int c), some (.int wt)] [.int av, .ref (oI M 129 4), .int wt] M v M' 0 0 := Ev.back 1 (fun n => rfl) H
      obtain ⟨b4, H⟩ := Ev.ial rfl rfl hS.1 b3.2 qw_39 H
      have H : Ev none e 68 200 [some (.ref 104), some (.ref 137), some (.int av), some (.int d), some (.int si), some (.int c), some (.int wt)] [.int (rI M (oI M 129 4) av), .int wt] M v M' 0 0 := H
      have H : Ev none e 68 207 [some (.ref 104), some (.ref 137), some (.int av), some (.int d), some (.int si), some (.int c), some (.int (wt + (rI M (oI M 129 4) av)))] [] M v M' 0 0 := Ev.back 3 (fun n => rfl) H
      have HF := H
      exact Or.inr (Or.inr (⟨h1, h2, b3.1, b4, HF⟩))
theorem weis_207 {e : Nat} {M M' : Mem} {v : Option Value} {av d si c wt : Int32} (hS : SQ M) (H : Ev none e 68 207 [some (.ref 104), some (.ref 137), some (.int av), some (.int d), some (.int si), some (.int c), some (.int wt)] [] M v M' 0 0) : ((zI M 137 3) = c ∧ (0 ≤ (5 : Int32).toInt ∧ (5 : Int32).toInt < 7) ∧ (0 ≤ av.toInt ∧ av.toInt < 1536) ∧ Ev none e 68 233 [some (.ref 104), some (.ref 137), some (.int av), some (.int d), some (.int si), some (.int c), some (.int (wt + (rI M (oI M 129 5) av)))] [] M v M' 0 0) ∨ (¬ ((zI M 137 3) = c) ∧ Ev none e 68 233 [some (.ref 104), some (.ref 137), some (.int av), some (.int d), some (.int si), some (.int c), some (.int (wt + 0))] [] M v M' 0 0) := by
  have H : Ev none e 68 210 [some (.ref 104), some (.ref 137), some (.int av), some (.int d), some (.int si), some (.int c), some (.int wt)] [.ref 137, .int wt] M v M' 0 0 := Ev.back 2 (fun n => rfl) H
  have H : Ev none e 68 213 [some (.ref 104), some (.ref 137), some (.int av), some (.int d), some (.int si), some (.int c), some (.int wt)] [.int (zI M 137 3), .int wt] M v M' 0 0 := Ev.back 1 (gs_3 rfl rfl (gf_i hS.1 qa_137 qi_40_3 rfl)) H
  have H : Ev none e 68 (if (zI M 137 3) = c then 218 else 229) [some (.ref 104), some (.ref 137), some (.int av), some (.int d), some (.int si), some (.int c), some (.int wt)] [.int wt] M v M' 0 0 := Ev.back 2 (fun n => rfl) H
  by_cases h1 : (zI M 137 3) = c
  · rw [if_pos h1] at H
    have H : Ev none e 68 219 [some (.ref 104), some (.ref 137), some (.int av), some (.int d), some (.int si), some (.int c), some (.int wt)] [.ref 104, .int wt] M v M' 0 0 := Ev.back 1 (fun n => rfl) H
    have H : Ev none e 68 222 [some (.ref 104), some (.ref 137), some (.int av), some (.int d), some (.int si), some (.int c), some (.int wt)] [.ref 129, .int wt] M v M' 0 0 := Ev.back 1 (gs_3 rfl rfl (gf_u hS.1 qa_104 qr_22_5 qu_38 rfl)) H
    have H : Ev none e 68 223 [some (.ref 104), some (.ref 137), some (.int av), some (.int d), some (.int si), some (.int c), some (.int wt)] [.int 5, .ref 129, .int wt] M v M' 0 0 := Ev.back 1 (fun n => rfl) H
    obtain ⟨b2, H⟩ := Ev.aal rfl rfl hS.1 qa_129 qz_38 H
    have H : Ev none e 68 224 [some (.ref 104), some (.ref 137), some (.int av), some (.int d), some (.int si), some (.int c), some (.int wt)] [.ref (oI M 129 5), .int wt] M v M' 0 0 := H
    have H : Ev none e 68 225 [some (.ref 104), some (.ref 137), some (.int av), some (.int d), some (.int si), some (.int c), some (.int wt)] [.int av, .ref (oI M 129 5), .int wt] M v M' 0 0 := Ev.back 1 (fun n => rfl) H
    obtain ⟨b3, H⟩ := Ev.ial rfl rfl hS.1 b2.2 qw_39 H
    have H : Ev none e 68 226 [some (.ref 104), some (.ref 137), some (.int av), some (.int d), some (.int si), some (.int c), some (.int wt)] [.int (rI M (oI M 129 5) av), .int wt] M v M' 0 0 := H
    have H : Ev none e 68 233 [some (.ref 104), some (.ref 137), some (.int av), some (.int d), some (.int si), some (.int c), some (.int (wt + (rI M (oI M 129 5) av)))] [] M v M' 0 0 := Ev.back 3 (fun n => rfl) H
    have HF := H
    exact Or.inl ⟨h1, b2.1, b3, HF⟩
  · rw [if_neg h1] at H
    have H : Ev none e 68 233 [some (.ref 104), some (.ref 137), some (.int av), some (.int d), some (.int si), some (.int c), some (.int (wt + 0))] [] M v M' 0 0 := Ev.back 3 (fun n => rfl) H
    have HF := H
    exact Or.inr (⟨h1, HF⟩)
theorem weis_233 {e : Nat} {M M' : Mem} {v : Option Value} {av d si c wt : Int32} (hS : SQ M) (H : Ev none e 68 233 [some (.ref 104), some (.ref 137), some (.int av), some (.int d), some (.int si), some (.int c), some (.int wt)] [] M v M' 0 0) : ((rI M (oI M 129 6) av) ≤ 0 ∧ (0 ≤ (6 : Int32).toInt ∧ (6 : Int32).toInt < 7) ∧ (0 ≤ av.toInt ∧ av.toInt < 1536) ∧ Ev none e 68 269 [some (.ref 104), some (.ref 137), some (.int av), some (.int d), some (.int si), some (.int c), some (.int wt)] [] M v M' 0 0) ∨ (¬ ((rI M (oI M 129 6) av) ≤ 0) ∧ (0 ≤ (6 : Int32).toInt ∧ (6 : Int32).toInt < 7) ∧ (0 ≤ av.toInt ∧ av.toInt < 1536) ∧ (0 ≤ (6 : Int32).toInt ∧ (6 : Int32).toInt < 7) ∧ (0 ≤ av.toInt ∧ av.toInt < 1536) ∧ (∃ e1 v1 M1, e = e1 + 1 ∧ Ev none e1 69 0 [some (.ref 104), some (.int c), some (.int d), some (.int si), none, none, none] [] M v1 M1 0 0 ∧ Ev none e 68 265 [some (.ref 104), some (.ref 137), some (.int av), some (.int d), some (.int si), some (.int c), some (.int wt)] (v1.toList ++ [.int (rI M (oI M 129 6) av), .int wt]) M1 v M' 0 0)) := by
  have H : Ev none e 68 234 [some (.ref 104), some (.ref 137), some (.int av), some (.int d), some (.int si), some (.int c), some (.int wt)] [.ref 104] M v M' 0 0 := Ev.back 1 (fun n => rfl) H
  have H : Ev none e 68 237 [some (.ref 104), some (.ref 137), some (.int av), some (.int d), some (.int si), some (.int c), some (.int wt)] [.ref 129] M v M' 0 0 := Ev.back 1 (gs_3 rfl rfl (gf_u hS.1 qa_104 qr_22_5 qu_38 rfl)) H
  have H : Ev none e 68 239 [some (.ref 104), some (.ref 137), some (.int av), some (.int d), some (.int si), some (.int c), some (.int wt)] [.int 6, .ref 129] M v M' 0 0 := Ev.back 1 (fun n => rfl) H
  obtain ⟨b1, H⟩ := Ev.aal rfl rfl hS.1 qa_129 qz_38 H
  have H : Ev none e 68 240 [some (.ref 104), some (.ref 137), some (.int av), some (.int d), some (.int si), some (.int c), some (.int wt)] [.ref (oI M 129 6)] M v M' 0 0 := H
  have H : Ev none e 68 241 [some (.ref 104), some (.ref 137), some (.int av), some (.int d), some (.int si), some (.int c), some (.int wt)] [.int av, .ref (oI M 129 6)] M v M' 0 0 := Ev.back 1 (fun n => rfl) H
  obtain ⟨b2, H⟩ := Ev.ial rfl rfl hS.1 b1.2 qw_39 H
  have H : Ev none e 68 242 [some (.ref 104), some (.ref 137), some (.int av), some (.int d), some (.int si), some (.int c), some (.int wt)] [.int (rI M (oI M 129 6) av)] M v M' 0 0 := H
  have H : Ev none e 68 (if (rI M (oI M 129 6) av) ≤ 0 then 269 else 245) [some (.ref 104), some (.ref 137), some (.int av), some (.int d), some (.int si), some (.int c), some (.int wt)] [] M v M' 0 0 := Ev.back 1 (fun n => rfl) H
  by_cases h3 : (rI M (oI M 129 6) av) ≤ 0
  · rw [if_pos h3] at H
    have HF := H
    exact Or.inl ⟨h3, b1.1, b2, HF⟩
  · rw [if_neg h3] at H
    have H : Ev none e 68 248 [some (.ref 104), some (.ref 137), some (.int av), some (.int d), some (.int si), some (.int c), some (.int wt)] [.ref 104, .int wt] M v M' 0 0 := Ev.back 2 (fun n => rfl) H
    have H : Ev none e 68 251 [some (.ref 104), some (.ref 137), some (.int av), some (.int d), some (.int si), some (.int c), some (.int wt)] [.ref 129, .int wt] M v M' 0 0 := Ev.back 1 (gs_3 rfl rfl (gf_u hS.1 qa_104 qr_22_5 qu_38 rfl)) H
    have H : Ev none e 68 253 [some (.ref 104), some (.ref 137), some (.int av), some (.int d), some (.int si), some (.int c), some (.int wt)] [.int 6, .ref 129, .int wt] M v M' 0 0 := Ev.back 1 (fun n => rfl) H
    obtain ⟨b4, H⟩ := Ev.aal rfl rfl hS.1 qa_129 qz_38 H
    have H : Ev none e 68 254 [some (.ref 104), some (.ref 137), some (.int av), some (.int d), some (.int si), some (.int c), some (.int wt)] [.ref (oI M 129 6), .int wt] M v M' 0 0 := H
    have H : Ev none e 68 255 [some (.ref 104), some (.ref 137), some (.int av), some (.int d), some (.int si), some (.int c), some (.int wt)] [.int av, .ref (oI M 129 6), .int wt] M v M' 0 0 := Ev.back 1 (fun n => rfl) H
    obtain ⟨b5, H⟩ := Ev.ial rfl rfl hS.1 b4.2 qw_39 H
    have H : Ev none e 68 256 [some (.ref 104), some (.ref 137), some (.int av), some (.int d), some (.int si), some (.int c), some (.int wt)] [.int (rI M (oI M 129 6) av), .int wt] M v M' 0 0 := H
    have H : Ev none e 68 262 [some (.ref 104), some (.ref 137), some (.int av), some (.int d), some (.int si), some (.int c), some (.int wt)] [.int si, .int d, .int c, .ref 104, .int (rI M (oI M 129 6) av), .int wt] M v M' 0 0 := Ev.back 4 (fun n => rfl) H
    obtain ⟨e1, rfl⟩ := Ev.dpos rfl rfl H
    obtain ⟨vK6, MK6, K6, H⟩ := Ev.callb (fun n_ => gs_7 rfl rfl (show gCal (.invokevirtual 258) 7 (.int si :: .int d :: .int c :: .ref 104 :: [.int (rI M (oI M 129 6) av), .int wt]) M = some (.inr (69, [some (.ref 104), some (.int c), some (.int d), some (.int si), none, none, none], [.int (rI M (oI M 129 6) av), .int wt])) from by show @cond (Option ((List Value × Mem) ⊕ (Nat × Lo × List Value))) (true && gRecv M (.ref 104) 7 && gRoom [.int (rI M (oI M 129 6) av), .int wt] && true) (some (.inr (69, [some (.ref 104), some (.int c), some (.int d), some (.int si), none, none, none], [.int (rI M (oI M 129 6) av), .int wt]))) none = _; rw [recv_s hS.1 qa_104 qo_22]; rfl)) H
    have K6 : Ev none e1 69 0 [some (.ref 104), some (.int c), some (.int d), some (.int si), none, none, none] [] M vK6 MK6 0 0 := K6
    have HF := H
    exact Or.inr (⟨h3, b1.1, b2, b4.1, b5, ⟨e1, vK6, MK6, rfl, K6, HF⟩⟩)
theorem weis_265 {e : Nat} {M M' : Mem} {v : Option Value} {av d si c wt y s0 w0 : Int32} (hS : SQ M) (H : Ev none e 68 265 [some (.ref 104), some (.ref 137), some (.int av), some (.int d), some (.int si), some (.int c), some (.int wt)] [.int y, .int s0, .int w0] M v M' 0 0) : v = some (.int (w0 - (s0 * y))) ∧ M' = M := by
  have H : Ev none e 68 271 [some (.ref 104), some (.ref 137), some (.int av), some (.int d), some (.int si), some (.int c), some (.int (w0 - (s0 * y)))] [.int (w0 - (s0 * y))] M v M' 0 0 := Ev.back 4 (fun n => rfl) H
  obtain ⟨z1, z2⟩ := Ev.retz rfl rfl H
  exact ⟨z1, z2⟩
theorem weis_269 {e : Nat} {M M' : Mem} {v : Option Value} {av d si c wt : Int32} (hS : SQ M) (H : Ev none e 68 269 [some (.ref 104), some (.ref 137), some (.int av), some (.int d), some (.int si), some (.int c), some (.int wt)] [] M v M' 0 0) : v = some (.int wt) ∧ M' = M := by
  have H : Ev none e 68 271 [some (.ref 104), some (.ref 137), some (.int av), some (.int d), some (.int si), some (.int c), some (.int wt)] [.int wt] M v M' 0 0 := Ev.back 1 (fun n => rfl) H
  obtain ⟨z1, z2⟩ := Ev.retz rfl rfl H
  exact ⟨z1, z2⟩
theorem chos_0 {e : Nat} {M M' : Mem} {v : Option Value} {go ha : Int32} (hS : SQ M) (H : Ev none e 66 0 [some (.ref 104), some (.ref 137), some (.int go), some (.int ha), none, none, none, none, none, none] [] M v M' 0 0) : (∃ e1 v1 M1, e = e1 + 1 ∧ Ev none e1 3 0 [some (.ref 105), some (.int (zI M 137 0)), some (.int go), none] [] M v1 M1 0 0 ∧ Ev none e 66 12 [some (.ref 104), some (.ref 137), some (.int go), some (.int ha), none, none, none, none, none, none] (v1.toList ++ []) M1 v M' 0 0) := by
  have H : Ev none e 66 1 [some (.ref 104), some (.ref 137), some (.int go), some (.int ha), none, none, none, none, none, none] [.ref 104] M v M' 0 0 := Ev.back 1 (fun n => rfl) H
  have H : Ev none e 66 4 [some (.ref 104), some (.ref 137), some (.int go), some (.int ha), none, none, none, none, none, none] [.ref 105] M v M' 0 0 := Ev.back 1 (gs_3 rfl rfl (gf_u hS.1 qa_104 qr_22_0 qu_23 rfl)) H
  have H : Ev none e 66 5 [some (.ref 104), some (.ref 137), some (.int go), some (.int ha), none, none, none, none, none, none] [.ref 137, .ref 105] M v M' 0 0 := Ev.back 1 (fun n => rfl) H
  have H : Ev none e 66 8 [some (.ref 104), some (.ref 137), some (.int go), some (.int ha), none, none, none, none, none, none] [.int (zI M 137 0), .ref 105] M v M' 0 0 := Ev.back 1 (gs_3 rfl rfl (gf_i hS.1 qa_137 qi_40_0 rfl)) H
  have H : Ev none e 66 9 [some (.ref 104), some (.ref 137), some (.int go), some (.int ha), none, none, none, none, none, none] [.int go, .int (zI M 137 0), .ref 105] M v M' 0 0 := Ev.back 1 (fun n => rfl) H
  obtain ⟨e1, rfl⟩ := Ev.dpos rfl rfl H
  obtain ⟨vK1, MK1, K1, H⟩ := Ev.callb (fun n_ => gs_7 rfl rfl (show gCal (.invokevirtual 222) 7 (.int go :: .int (zI M 137 0) :: .ref 105 :: []) M = some (.inr (3, [some (.ref 105), some (.int (zI M 137 0)), some (.int go), none], [])) from by show @cond (Option ((List Value × Mem) ⊕ (Nat × Lo × List Value))) (true && gRecv M (.ref 105) 0 && gRoom [] && true) (some (.inr (3, [some (.ref 105), some (.int (zI M 137 0)), some (.int go), none], []))) none = _; rw [recv_s hS.1 qa_105 qo_23]; rfl)) H
  have K1 : Ev none e1 3 0 [some (.ref 105), some (.int (zI M 137 0)), some (.int go), none] [] M vK1 MK1 0 0 := K1
  have HF := H
  exact ⟨e1, vK1, MK1, rfl, K1, HF⟩
theorem chos_12 {e : Nat} {M M' : Mem} {v : Option Value} {go ha y : Int32} (hS : SQ M) (H : Ev none e 66 12 [some (.ref 104), some (.ref 137), some (.int go), some (.int ha), none, none, none, none, none, none] [.int y] M v M' 0 0) : (y = (-1) ∧ Ev none e 66 29 [some (.ref 104), some (.ref 137), some (.int go), some (.int ha), some (.int y), some (.int 0), some (.int 0), none, none, none] [] M v M' 0 0) ∨ (¬ (y = (-1)) ∧ v = some (.int y) ∧ M' = M) := by
  have H : Ev none e 66 (if y = (-1) then 23 else 20) [some (.ref 104), some (.ref 137), some (.int go), some (.int ha), some (.int y), none, none, none, none, none] [] M v M' 0 0 := Ev.back 4 (fun n => rfl) H
  by_cases h1 : y = (-1)
  · rw [if_pos h1] at H
    have H : Ev none e 66 29 [some (.ref 104), some (.ref 137), some (.int go), some (.int ha), some (.int y), some (.int 0), some (.int 0), none, none, none] [] M v M' 0 0 := Ev.back 4 (fun n => rfl) H
    have HF := H
    exact Or.inl ⟨h1, HF⟩
  · rw [if_neg h1] at H
    have H : Ev none e 66 22 [some (.ref 104), some (.ref 137), some (.int go), some (.int ha), some (.int y), none, none, none, none, none] [.int y] M v M' 0 0 := Ev.back 1 (fun n => rfl) H
    obtain ⟨z1, z2⟩ := Ev.retz rfl rfl H
    exact Or.inr (⟨h1, z1, z2⟩)
theorem chos_29 {e : Nat} {M M' : Mem} {v : Option Value} {go ha be le d : Int32} {c7 c8 c9 : Option Value} (hS : SQ M) (H : Ev none e 66 29 [some (.ref 104), some (.ref 137), some (.int go), some (.int ha), some (.int be), some (.int le), some (.int d), c7, c8, c9] [] M v M' 0 0) : (8 ≤ d ∧ v = some (.int be) ∧ M' = M) ∨ (¬ (8 ≤ d) ∧ (rI M 108 ((8 * (zI M 137 0)) + d)) = (-1) ∧ (0 ≤ ((8 * (zI M 137 0)) + d).toInt ∧ ((8 * (zI M 137 0)) + d).toInt < 2048) ∧ Ev none e 66 29 [some (.ref 104), some (.ref 137), some (.int go), some (.int ha), some (.int be), some (.int le), some (.int (d + 1)), some (.int (rI M 108 ((8 * (zI M 137 0)) + d))), c8, c9] [] M v M' 0 0) ∨ (¬ (8 ≤ d) ∧ ¬ ((rI M 108 ((8 * (zI M 137 0)) + d)) = (-1)) ∧ (G_7 M (fR M 104 7) (rI M 108 ((8 * (zI M 137 0)) + d))) = 0 ∧ (0 ≤ ((8 * (zI M 137 0)) + d).toInt ∧ ((8 * (zI M 137 0)) + d).toInt < 2048) ∧ Ev none e 66 29 [some (.ref 104), some (.ref 137), some (.int go), some (.int ha), some (.int be), some (.int le), some (.int (d + 1)), some (.int (rI M 108 ((8 * (zI M 137 0)) + d))), c8, c9] [] M v M' 0 0) ∨ (¬ (8 ≤ d) ∧ ¬ ((rI M 108 ((8 * (zI M 137 0)) + d)) = (-1)) ∧ ¬ ((G_7 M (fR M 104 7) (rI M 108 ((8 * (zI M 137 0)) + d))) = 0) ∧ (rI M 128 ((256 * ha) + (rI M 108 ((8 * (zI M 137 0)) + d)))) = (-1) ∧ (0 ≤ ((8 * (zI M 137 0)) + d).toInt ∧ ((8 * (zI M 137 0)) + d).toInt < 2048) ∧ (0 ≤ ((256 * ha) + (rI M 108 ((8 * (zI M 137 0)) + d))).toInt ∧ ((256 * ha) + (rI M 108 ((8 * (zI M 137 0)) + d))).toInt < 1536) ∧ (0 ≤ ha.toInt ∧ ha.toInt < 6) ∧ (∃ e1 v1 M1, e = e1 + 1 ∧ Ev none e1 67 0 [some (.ref 104), some (.ref (oI M 109 ha)), some (.int ((256 * ha) + (rI M 108 ((8 * (zI M 137 0)) + d)))), some (.int (rI M 108 ((8 * (zI M 137 0)) + d))), none, none] [] M v1 M1 0 0 ∧ Ev none e 66 112 [some (.ref 104), some (.ref 137), some (.int go), some (.int ha), some (.int be), some (.int le), some (.int d), some (.int (rI M 108 ((8 * (zI M 137 0)) + d))), some (.int ((256 * ha) + (rI M 108 ((8 * (zI M 137 0)) + d)))), c9] (v1.toList ++ []) M1 v M' 0 0)) ∨ (¬ (8 ≤ d) ∧ ¬ ((rI M 108 ((8 * (zI M 137 0)) + d)) = (-1)) ∧ ¬ ((G_7 M (fR M 104 7) (rI M 108 ((8 * (zI M 137 0)) + d))) = 0) ∧ ¬ ((rI M 128 ((256 * ha) + (rI M 108 ((8 * (zI M 137 0)) + d)))) = (-1)) ∧ (0 ≤ ((8 * (zI M 137 0)) + d).toInt ∧ ((8 * (zI M 137 0)) + d).toInt < 2048) ∧ (0 ≤ ((256 * ha) + (rI M 108 ((8 * (zI M 137 0)) + d))).toInt ∧ ((256 * ha) + (rI M 108 ((8 * (zI M 137 0)) + d))).toInt < 1536) ∧ Ev none e 66 112 [some (.ref 104), some (.ref 137), some (.int go), some (.int ha), some (.int be), some (.int le), some (.int d), some (.int (rI M 108 ((8 * (zI M 137 0)) + d))), some (.int ((256 * ha) + (rI M 108 ((8 * (zI M 137 0)) + d)))), c9] [] M v M' 0 0) := by
  have H : Ev none e 66 (if 8 ≤ d then 184 else 36) [some (.ref 104), some (.ref 137), some (.int go), some (.int ha), some (.int be), some (.int le), some (.int d), c7, c8, c9] [] M v M' 0 0 := Ev.back 3 (fun n => rfl) H
  by_cases h1 : 8 ≤ d
  · rw [if_pos h1] at H
    have H : Ev none e 66 186 [some (.ref 104), some (.ref 137), some (.int go), some (.int ha), some (.int be), some (.int le), some (.int d), c7, c8, c9] [.int be] M v M' 0 0 := Ev.back 1 (fun n => rfl) H
    obtain ⟨z1, z2⟩ := Ev.retz rfl rfl H
    exact Or.inl ⟨h1, z1, z2⟩
  · rw [if_neg h1] at H
    have H : Ev none e 66 37 [some (.ref 104), some (.ref 137), some (.int go), some (.int ha), some (.int be), some (.int le), some (.int d), c7, c8, c9] [.ref 104] M v M' 0 0 := Ev.back 1 (fun n => rfl) H
    have H : Ev none e 66 40 [some (.ref 104), some (.ref 137), some (.int go), some (.int ha), some (.int be), some (.int le), some (.int d), c7, c8, c9] [.ref 105] M v M' 0 0 := Ev.back 1 (gs_3 rfl rfl (gf_u hS.1 qa_104 qr_22_0 qu_23 rfl)) H
    have H : Ev none e 66 43 [some (.ref 104), some (.ref 137), some (.int go), some (.int ha), some (.int be), some (.int le), some (.int d), c7, c8, c9] [.ref 108] M v M' 0 0 := Ev.back 1 (gs_3 rfl rfl (gf_u hS.1 qa_105 qr_23_2 qu_26 rfl)) H
    have H : Ev none e 66 46 [some (.ref 104), some (.ref 137), some (.int go), some (.int ha), some (.int be), some (.int le), some (.int d), c7, c8, c9] [.ref 137, .int 8, .ref 108] M v M' 0 0 := Ev.back 2 (fun n => rfl) H
    have H : Ev none e 66 49 [some (.ref 104), some (.ref 137), some (.int go), some (.int ha), some (.int be), some (.int le), some (.int d), c7, c8, c9] [.int (zI M 137 0), .int 8, .ref 108] M v M' 0 0 := Ev.back 1 (gs_3 rfl rfl (gf_i hS.1 qa_137 qi_40_0 rfl)) H
    have H : Ev none e 66 53 [some (.ref 104), some (.ref 137), some (.int go), some (.int ha), some (.int be), some (.int le), some (.int d), c7, c8, c9] [.int ((8 * (zI M 137 0)) + d), .ref 108] M v M' 0 0 := Ev.back 3 (fun n => rfl) H
    obtain ⟨b2, H⟩ := Ev.ial rfl rfl hS.1 qa_108 qw_26 H
    have H : Ev none e 66 54 [some (.ref 104), some (.ref 137), some (.int go), some (.int ha), some (.int be), some (.int le), some (.int d), c7, c8, c9] [.int (rI M 108 ((8 * (zI M 137 0)) + d))] M v M' 0 0 := H
    have H : Ev none e 66 (if (rI M 108 ((8 * (zI M 137 0)) + d)) = (-1) then 178 else 62) [some (.ref 104), some (.ref 137), some (.int go), some (.int ha), some (.int be), some (.int le), some (.int d), some (.int (rI M 108 ((8 * (zI M 137 0)) + d))), c8, c9] [] M v M' 0 0 := Ev.back 4 (fun n => rfl) H
    by_cases h3 : (rI M 108 ((8 * (zI M 137 0)) + d)) = (-1)
    · rw [if_pos h3] at H
      have H : Ev none e 66 29 [some (.ref 104), some (.ref 137), some (.int go), some (.int ha), some (.int be), some (.int le), some (.int (d + 1)), some (.int (rI M 108 ((8 * (zI M 137 0)) + d))), c8, c9] [] M v M' 0 0 := Ev.back 2 (fun n => rfl) H
      have HF := H
      exact Or.inr (Or.inl ⟨h1, h3, b2, HF⟩)
    · rw [if_neg h3] at H
      have H : Ev none e 66 63 [some (.ref 104), some (.ref 137), some (.int go), some (.int ha), some (.int be), some (.int le), some (.int d), some (.int (rI M 108 ((8 * (zI M 137 0)) + d))), c8, c9] [.ref 104] M v M' 0 0 := Ev.back 1 (fun n => rfl) H
      have H : Ev none e 66 66 [some (.ref 104), some (.ref 137), some (.int go), some (.int ha), some (.int be), some (.int le), some (.int d), some (.int (rI M 108 ((8 * (zI M 137 0)) + d))), c8, c9] [.ref (fR M 104 7)] M v M' 0 0 := Ev.back 1 (gs_3 rfl rfl (gf_r hS.1 qa_104 qr_22_7 rfl)) H
      have H : Ev none e 66 68 [some (.ref 104), some (.ref 137), some (.int go), some (.int ha), some (.int be), some (.int le), some (.int d), some (.int (rI M 108 ((8 * (zI M 137 0)) + d))), c8, c9] [.int (rI M 108 ((8 * (zI M 137 0)) + d)), .ref (fR M 104 7)] M v M' 0 0 := Ev.back 1 (fun n => rfl) H
      obtain ⟨e1, rfl⟩ := Ev.dpos rfl rfl H
      obtain ⟨vK4, MK4, K4, H⟩ := Ev.callb (fun n_ => gs_7 rfl rfl (show gCal (.invokevirtual 225) 7 (.int (rI M 108 ((8 * (zI M 137 0)) + d)) :: .ref (fR M 104 7) :: []) M = some (.inr (7, [some (.ref (fR M 104 7)), some (.int (rI M 108 ((8 * (zI M 137 0)) + d)))], [])) from by show @cond (Option ((List Value × Mem) ⊕ (Nat × Lo × List Value))) (true && gRecv M (.ref (fR M 104 7)) 1 && gRoom [] && true) (some (.inr (7, [some (.ref (fR M 104 7)), some (.int (rI M 108 ((8 * (zI M 137 0)) + d)))], []))) none = _; rw [recv_s hS.1 (hS.1.fr qa_104 qr_22_7).2 qo_8]; rfl)) H
      obtain ⟨pK4, qK4⟩ := g_7 hS (hS.1.fr qa_104 qr_22_7).2 K4
      rw [pK4, qK4] at H
      have H : Ev none (e1 + 1) 66 71 [some (.ref 104), some (.ref 137), some (.int go), some (.int ha), some (.int be), some (.int le), some (.int d), some (.int (rI M 108 ((8 * (zI M 137 0)) + d))), c8, c9] [.int (G_7 M (fR M 104 7) (rI M 108 ((8 * (zI M 137 0)) + d)))] M v M' 0 0 := H
      have H : Ev none (e1 + 1) 66 (if (G_7 M (fR M 104 7) (rI M 108 ((8 * (zI M 137 0)) + d))) = 0 then 74 else 77) [some (.ref 104), some (.ref 137), some (.int go), some (.int ha), some (.int be), some (.int le), some (.int d), some (.int (rI M 108 ((8 * (zI M 137 0)) + d))), c8, c9] [] M v M' 0 0 := Ev.back 1 (fun n => rfl) H
      by_cases h5 : (G_7 M (fR M 104 7) (rI M 108 ((8 * (zI M 137 0)) + d))) = 0
      · rw [if_pos h5] at H
        have H : Ev none (e1 + 1) 66 29 [some (.ref 104), some (.ref 137), some (.int go), some (.int ha), some (.int be), some (.int le), some (.int (d + 1)), some (.int (rI M 108 ((8 * (zI M 137 0)) + d))), c8, c9] [] M v M' 0 0 := Ev.back 3 (fun n => rfl) H
        have HF := H
        exact Or.inr (Or.inr (Or.inl ⟨h1, h3, h5, b2, HF⟩))
      · rw [if_neg h5] at H
        have H : Ev none (e1 + 1) 66 88 [some (.ref 104), some (.ref 137), some (.int go), some (.int ha), some (.int be), some (.int le), some (.int d), some (.int (rI M 108 ((8 * (zI M 137 0)) + d))), some (.int ((256 * ha) + (rI M 108 ((8 * (zI M 137 0)) + d)))), c9] [.ref 104] M v M' 0 0 := Ev.back 7 (fun n => rfl) H
        have H : Ev none (e1 + 1) 66 91 [some (.ref 104), some (.ref 137), some (.int go), some (.int ha), some (.int be), some (.int le), some (.int d), some (.int (rI M 108 ((8 * (zI M 137 0)) + d))), some (.int ((256 * ha) + (rI M 108 ((8 * (zI M 137 0)) + d)))), c9] [.ref 128] M v M' 0 0 := Ev.back 1 (gs_3 rfl rfl (gf_u hS.1 qa_104 qr_22_4 qu_37 rfl)) H
        have H : Ev none (e1 + 1) 66 93 [some (.ref 104), some (.ref 137), some (.int go), some (.int ha), some (.int be), some (.int le), some (.int d), some (.int (rI M 108 ((8 * (zI M 137 0)) + d))), some (.int ((256 * ha) + (rI M 108 ((8 * (zI M 137 0)) + d)))), c9] [.int ((256 * ha) + (rI M 108 ((8 * (zI M 137 0)) + d))), .ref 128] M v M' 0 0 := Ev.back 1 (fun n => rfl) H
        obtain ⟨b6, H⟩ := Ev.ial rfl rfl hS.1 qa_128 qw_37 H
        have H : Ev none (e1 + 1) 66 94 [some (.ref 104), some (.ref 137), some (.int go), some (.int ha), some (.int be), some (.int le), some (.int d), some (.int (rI M 108 ((8 * (zI M 137 0)) + d))), some (.int ((256 * ha) + (rI M 108 ((8 * (zI M 137 0)) + d)))), c9] [.int (rI M 128 ((256 * ha) + (rI M 108 ((8 * (zI M 137 0)) + d))))] M v M' 0 0 := H
        have H : Ev none (e1 + 1) 66 (if (rI M 128 ((256 * ha) + (rI M 108 ((8 * (zI M 137 0)) + d)))) = (-1) then 98 else 112) [some (.ref 104), some (.ref 137), some (.int go), some (.int ha), some (.int be), some (.int le), some (.int d), some (.int (rI M 108 ((8 * (zI M 137 0)) + d))), some (.int ((256 * ha) + (rI M 108 ((8 * (zI M 137 0)) + d)))), c9] [] M v M' 0 0 := Ev.back 2 (fun n => rfl) H
        by_cases h7 : (rI M 128 ((256 * ha) + (rI M 108 ((8 * (zI M 137 0)) + d)))) = (-1)
        · rw [if_pos h7] at H
          have H : Ev none (e1 + 1) 66 100 [some (.ref 104), some (.ref 137), some (.int go), some (.int ha), some (.int be), some (.int le), some (.int d), some (.int (rI M 108 ((8 * (zI M 137 0)) + d))), some (.int ((256 * ha) + (rI M 108 ((8 * (zI M 137 0)) + d)))), c9] [.ref 104, .ref 104] M v M' 0 0 := Ev.back 2 (fun n => rfl) H
          have H : Ev none (e1 + 1) 66 103 [some (.ref 104), some (.ref 137), some (.int go), some (.int ha), some (.int be), some (.int le), some (.int d), some (.int (rI M 108 ((8 * (zI M 137 0)) + d))), some (.int ((256 * ha) + (rI M 108 ((8 * (zI M 137 0)) + d)))), c9] [.ref 109, .ref 104] M v M' 0 0 := Ev.back 1 (gs_3 rfl rfl (gf_u hS.1 qa_104 qr_22_1 qu_27 rfl)) H
          have H : Ev none (e1 + 1) 66 104 [some (.ref 104), some (.ref 137), some (.int go), some (.int ha), some (.int be), some (.int le), some (.int d), some (.int (rI M 108 ((8 * (zI M 137 0)) + d))), some (.int ((256 * ha) + (rI M 108 ((8 * (zI M 137 0)) + d)))), c9] [.int ha, .ref 109, .ref 104] M v M' 0 0 := Ev.back 1 (fun n => rfl) H
          obtain ⟨b8, H⟩ := Ev.aal rfl rfl hS.1 qa_109 qz_27 H
          have H : Ev none (e1 + 1) 66 105 [some (.ref 104), some (.ref 137), some (.int go), some (.int ha), some (.int be), some (.int le), some (.int d), some (.int (rI M 108 ((8 * (zI M 137 0)) + d))), some (.int ((256 * ha) + (rI M 108 ((8 * (zI M 137 0)) + d)))), c9] [.ref (oI M 109 ha), .ref 104] M v M' 0 0 := H
          have H : Ev none (e1 + 1) 66 109 [some (.ref 104), some (.ref 137), some (.int go), some (.int ha), some (.int be), some (.int le), some (.int d), some (.int (rI M 108 ((8 * (zI M 137 0)) + d))), some (.int ((256 * ha) + (rI M 108 ((8 * (zI M 137 0)) + d)))), c9] [.int (rI M 108 ((8 * (zI M 137 0)) + d)), .int ((256 * ha) + (rI M 108 ((8 * (zI M 137 0)) + d))), .ref (oI M 109 ha), .ref 104] M v M' 0 0 := Ev.back 2 (fun n => rfl) H
          obtain ⟨vK9, MK9, K9, H⟩ := Ev.callb (fun n_ => gs_7 rfl rfl (show gCal (.invokevirtual 228) 7 (.int (rI M 108 ((8 * (zI M 137 0)) + d)) :: .int ((256 * ha) + (rI M 108 ((8 * (zI M 137 0)) + d))) :: .ref (oI M 109 ha) :: .ref 104 :: []) M = some (.inr (67, [some (.ref 104), some (.ref (oI M 109 ha)), some (.int ((256 * ha) + (rI M 108 ((8 * (zI M 137 0)) + d)))), some (.int (rI M 108 ((8 * (zI M 137 0)) + d))), none, none], [])) from by show @cond (Option ((List Value × Mem) ⊕ (Nat × Lo × List Value))) (true && gRecv M (.ref 104) 7 && gRoom [] && true) (some (.inr (67, [some (.ref 104), some (.ref (oI M 109 ha)), some (.int ((256 * ha) + (rI M 108 ((8 * (zI M 137 0)) + d)))), some (.int (rI M 108 ((8 * (zI M 137 0)) + d))), none, none], []))) none = _; rw [recv_s hS.1 qa_104 qo_22]; rfl)) H
          have K9 : Ev none e1 67 0 [some (.ref 104), some (.ref (oI M 109 ha)), some (.int ((256 * ha) + (rI M 108 ((8 * (zI M 137 0)) + d)))), some (.int (rI M 108 ((8 * (zI M 137 0)) + d))), none, none] [] M vK9 MK9 0 0 := K9
          have HF := H
          exact Or.inr (Or.inr (Or.inr (Or.inl ⟨h1, h3, h5, h7, b2, b6, b8.1, ⟨e1, vK9, MK9, rfl, K9, HF⟩⟩)))
        · rw [if_neg h7] at H
          have HF := H
          exact Or.inr (Or.inr (Or.inr (Or.inr (⟨h1, h3, h5, h7, b2, b6, HF⟩))))
theorem chos_112 {e : Nat} {M M' : Mem} {v : Option Value} {go ha be le d c av : Int32} {c9 : Option Value} (hS : SQ M) (H : Ev none e 66 112 [some (.ref 104), some (.ref 137), some (.int go), some (.int ha), some (.int be), some (.int le), some (.int d), some (.int c), some (.int av), c9] [] M v M' 0 0) : ((rI M 128 av) = 1 ∧ (0 ≤ av.toInt ∧ av.toInt < 1536) ∧ Ev none e 66 29 [some (.ref 104), some (.ref 137), some (.int go), some (.int ha), some (.int be), some (.int le), some (.int (d + 1)), some (.int c), some (.int av), c9] [] M v M' 0 0) ∨ (¬ ((rI M 128 av) = 1) ∧ (0 ≤ av.toInt ∧ av.toInt < 1536) ∧ (0 ≤ ha.toInt ∧ ha.toInt < 6) ∧ (∃ e1 v1 M1, e = e1 + 1 ∧ Ev none e1 68 0 [some (.ref 104), some (.ref 137), some (.int av), some (.int d), some (.int (zI M (oI M 109 ha) 13)), none, none] [] M v1 M1 0 0 ∧ Ev none e 66 154 [some (.ref 104), some (.ref 137), some (.int go), some (.int ha), some (.int be), some (.int le), some (.int d), some (.int c), some (.int av), c9] (v1.toList ++ [.int (G_4 M c go)]) M1 v M' 0 0)) := by
  have H : Ev none e 66 113 [some (.ref 104), some (.ref 137), some (.int go), some (.int ha), some (.int be), some (.int le), some (.int d), some (.int c), some (.int av), c9] [.ref 104] M v M' 0 0 := Ev.back 1 (fun n => rfl) H
  have H : Ev none e 66 116 [some (.ref 104), some (.ref 137), some (.int go), some (.int ha), some (.int be), some (.int le), some (.int d), some (.int c), some (.int av), c9] [.ref 128] M v M' 0 0 := Ev.back 1 (gs_3 rfl rfl (gf_u hS.1 qa_104 qr_22_4 qu_37 rfl)) H
  have H : Ev none e 66 118 [some (.ref 104), some (.ref 137), some (.int go), some (.int ha), some (.int be), some (.int le), some (.int d), some (.int c), some (.int av), c9] [.int av, .ref 128] M v M' 0 0 := Ev.back 1 (fun n => rfl) H
  obtain ⟨b1, H⟩ := Ev.ial rfl rfl hS.1 qa_128 qw_37 H
  have H : Ev none e 66 119 [some (.ref 104), some (.ref 137), some (.int go), some (.int ha), some (.int be), some (.int le), some (.int d), some (.int c), some (.int av), c9] [.int (rI M 128 av)] M v M' 0 0 := H
  have H : Ev none e 66 (if (rI M 128 av) = 1 then 123 else 126) [some (.ref 104), some (.ref 137), some (.int go), some (.int ha), some (.int be), some (.int le), some (.int d), some (.int c), some (.int av), c9] [] M v M' 0 0 := Ev.back 2 (fun n => rfl) H
  by_cases h2 : (rI M 128 av) = 1
  · rw [if_pos h2] at H
    have H : Ev none e 66 29 [some (.ref 104), some (.ref 137), some (.int go), some (.int ha), some (.int be), some (.int le), some (.int (d + 1)), some (.int c), some (.int av), c9] [] M v M' 0 0 := Ev.back 3 (fun n => rfl) H
    have HF := H
    exact Or.inl ⟨h2, b1, HF⟩
  · rw [if_neg h2] at H
    have H : Ev none e 66 127 [some (.ref 104), some (.ref 137), some (.int go), some (.int ha), some (.int be), some (.int le), some (.int d), some (.int c), some (.int av), c9] [.ref 104] M v M' 0 0 := Ev.back 1 (fun n => rfl) H
    have H : Ev none e 66 130 [some (.ref 104), some (.ref 137), some (.int go), some (.int ha), some (.int be), some (.int le), some (.int d), some (.int c), some (.int av), c9] [.ref 105] M v M' 0 0 := Ev.back 1 (gs_3 rfl rfl (gf_u hS.1 qa_104 qr_22_0 qu_23 rfl)) H
    have H : Ev none e 66 133 [some (.ref 104), some (.ref 137), some (.int go), some (.int ha), some (.int be), some (.int le), some (.int d), some (.int c), some (.int av), c9] [.int go, .int c, .ref 105] M v M' 0 0 := Ev.back 2 (fun n => rfl) H
    obtain ⟨e1, rfl⟩ := Ev.dpos rfl rfl H
    obtain ⟨vK3, MK3, K3, H⟩ := Ev.callb (fun n_ => gs_7 rfl rfl (show gCal (.invokevirtual 232) 7 (.int go :: .int c :: .ref 105 :: []) M = some (.inr (4, [some (.ref 105), some (.int c), some (.int go), none, none], [])) from by show @cond (Option ((List Value × Mem) ⊕ (Nat × Lo × List Value))) (true && gRecv M (.ref 105) 0 && gRoom [] && true) (some (.inr (4, [some (.ref 105), some (.int c), some (.int go), none, none], []))) none = _; rw [recv_s hS.1 qa_105 qo_23]; rfl)) H
    obtain ⟨pK3, qK3⟩ := g_4 hS K3
    rw [pK3, qK3] at H
    have H : Ev none (e1 + 1) 66 136 [some (.ref 104), some (.ref 137), some (.int go), some (.int ha), some (.int be), some (.int le), some (.int d), some (.int c), some (.int av), c9] [.int (G_4 M c go)] M v M' 0 0 := H
    have H : Ev none (e1 + 1) 66 143 [some (.ref 104), some (.ref 137), some (.int go), some (.int ha), some (.int be), some (.int le), some (.int d), some (.int c), some (.int av), c9] [.ref 104, .int d, .int av, .ref 137, .ref 104, .int (G_4 M c go)] M v M' 0 0 := Ev.back 5 (fun n => rfl) H
    have H : Ev none (e1 + 1) 66 146 [some (.ref 104), some (.ref 137), some (.int go), some (.int ha), some (.int be), some (.int le), some (.int d), some (.int c), some (.int av), c9] [.ref 109, .int d, .int av, .ref 137, .ref 104, .int (G_4 M c go)] M v M' 0 0 := Ev.back 1 (gs_3 rfl rfl (gf_u hS.1 qa_104 qr_22_1 qu_27 rfl)) H
    have H : Ev none (e1 + 1) 66 147 [some (.ref 104), some (.ref 137), some (.int go), some (.int ha), some (.int be), some (.int le), some (.int d), some (.int c), some (.int av), c9] [.int ha, .ref 109, .int d, .int av, .ref 137, .ref 104, .int (G_4 M c go)] M v M' 0 0 := Ev.back 1 (fun n => rfl) H
    obtain ⟨b4, H⟩ := Ev.aal rfl rfl hS.1 qa_109 qz_27 H
    have H : Ev none (e1 + 1) 66 148 [some (.ref 104), some (.ref 137), some (.int go), some (.int ha), some (.int be), some (.int le), some (.int d), some (.int c), some (.int av), c9] [.ref (oI M 109 ha), .int d, .int av, .ref 137, .ref 104, .int (G_4 M c go)] M v M' 0 0 := H
    have H : Ev none (e1 + 1) 66 151 [some (.ref 104), some (.ref 137), some (.int go), some (.int ha), some (.int be), some (.int le), some (.int d), some (.int c), some (.int av), c9] [.int (zI M (oI M 109 ha) 13), .int d, .int av, .ref 137, .ref 104, .int (G_4 M c go)] M v M' 0 0 := Ev.back 1 (gs_3 rfl rfl (gf_i hS.1 b4.2 qi_28_13 rfl)) H
    obtain ⟨vK5, MK5, K5, H⟩ := Ev.callb (fun n_ => gs_7 rfl rfl (show gCal (.invokevirtual 238) 7 (.int (zI M (oI M 109 ha) 13) :: .int d :: .int av :: .ref 137 :: .ref 104 :: [.int (G_4 M c go)]) M = some (.inr (68, [some (.ref 104), some (.ref 137), some (.int av), some (.int d), some (.int (zI M (oI M 109 ha) 13)), none, none], [.int (G_4 M c go)])) from by show @cond (Option ((List Value × Mem) ⊕ (Nat × Lo × List Value))) (true && gRecv M (.ref 104) 7 && gRoom [.int (G_4 M c go)] && true) (some (.inr (68, [some (.ref 104), some (.ref 137), some (.int av), some (.int d), some (.int (zI M (oI M 109 ha) 13)), none, none], [.int (G_4 M c go)]))) none = _; rw [recv_s hS.1 qa_104 qo_22]; rfl)) H
    have K5 : Ev none e1 68 0 [some (.ref 104), some (.ref 137), some (.int av), some (.int d), some (.int (zI M (oI M 109 ha) 13)), none, none] [] M vK5 MK5 0 0 := K5
    have HF := H
    exact Or.inr (⟨h2, b1, b4.1, ⟨e1, vK5, MK5, rfl, K5, HF⟩⟩)
theorem chos_154 {e : Nat} {M M' : Mem} {v : Option Value} {go ha be le d c av y ds : Int32} {c9 : Option Value} (hS : SQ M) (H : Ev none e 66 154 [some (.ref 104), some (.ref 137), some (.int go), some (.int ha), some (.int be), some (.int le), some (.int d), some (.int c), some (.int av), c9] [.int y, .int ds] M v M' 0 0) : (be = (-1) ∧ Ev none e 66 29 [some (.ref 104), some (.ref 137), some (.int go), some (.int ha), some (.int d), some (.int (ds + y)), some (.int (d + 1)), some (.int c), some (.int av), some (.int (ds + y))] [] M v M' 0 0) ∨ (¬ (be = (-1)) ∧ le ≤ (ds + y) ∧ Ev none e 66 29 [some (.ref 104), some (.ref 137), some (.int go), some (.int ha), some (.int be), some (.int le), some (.int (d + 1)), some (.int c), some (.int av), some (.int (ds + y))] [] M v M' 0 0) ∨ (¬ (be = (-1)) ∧ ¬ (le ≤ (ds + y)) ∧ Ev none e 66 29 [some (.ref 104), some (.ref 137), some (.int go), some (.int ha), some (.int d), some (.int (ds + y)), some (.int (d + 1)), some (.int c), some (.int av), some (.int (ds + y))] [] M v M' 0 0) := by
  have H : Ev none e 66 (if be = (-1) then 170 else 163) [some (.ref 104), some (.ref 137), some (.int go), some (.int ha), some (.int be), some (.int le), some (.int d), some (.int c), some (.int av), some (.int (ds + y))] [] M v M' 0 0 := Ev.back 5 (fun n => rfl) H
  by_cases h1 : be = (-1)
  · rw [if_pos h1] at H
    have H : Ev none e 66 29 [some (.ref 104), some (.ref 137), some (.int go), some (.int ha), some (.int d), some (.int (ds + y)), some (.int (d + 1)), some (.int c), some (.int av), some (.int (ds + y))] [] M v M' 0 0 := Ev.back 6 (fun n => rfl) H
    have HF := H
    exact Or.inl ⟨h1, HF⟩
  · rw [if_neg h1] at H
    have H : Ev none e 66 (if le ≤ (ds + y) then 178 else 170) [some (.ref 104), some (.ref 137), some (.int go), some (.int ha), some (.int be), some (.int le), some (.int d), some (.int c), some (.int av), some (.int (ds + y))] [] M v M' 0 0 := Ev.back 3 (fun n => rfl) H
    by_cases h2 : le ≤ (ds + y)
    · rw [if_pos h2] at H
      have H : Ev none e 66 29 [some (.ref 104), some (.ref 137), some (.int go), some (.int ha), some (.int be), some (.int le), some (.int (d + 1)), some (.int c), some (.int av), some (.int (ds + y))] [] M v M' 0 0 := Ev.back 2 (fun n => rfl) H
      have HF := H
      exact Or.inr (Or.inl ⟨h1, h2, HF⟩)
    · rw [if_neg h2] at H
      have H : Ev none e 66 29 [some (.ref 104), some (.ref 137), some (.int go), some (.int ha), some (.int d), some (.int (ds + y)), some (.int (d + 1)), some (.int c), some (.int av), some (.int (ds + y))] [] M v M' 0 0 := Ev.back 6 (fun n => rfl) H
      have HF := H
      exact Or.inr (Or.inr (⟨h1, h2, HF⟩))
