/-! THE CLASS'S walking: weigh, choose: pieces (made by gwal2.py) -/
noncomputable def G_4 (M : Mem) (c : Int32) (go : Int32) : Int32 := (10 * (if (if 0 ≤ ((rI M 106 c) - (rI M 106 go)) then ((rI M 106 c) - (rI M 106 go)) else 0 - ((rI M 106 c) - (rI M 106 go))) < (if 0 ≤ ((rI M 107 c) - (rI M 107 go)) then ((rI M 107 c) - (rI M 107 go)) else 0 - ((rI M 107 c) - (rI M 107 go))) then (if 0 ≤ ((rI M 107 c) - (rI M 107 go)) then ((rI M 107 c) - (rI M 107 go)) else 0 - ((rI M 107 c) - (rI M 107 go))) else (if 0 ≤ ((rI M 106 c) - (rI M 106 go)) then ((rI M 106 c) - (rI M 106 go)) else 0 - ((rI M 106 c) - (rI M 106 go))))) + (4 * (if (if 0 ≤ ((rI M 107 c) - (rI M 107 go)) then ((rI M 107 c) - (rI M 107 go)) else 0 - ((rI M 107 c) - (rI M 107 go))) < (if 0 ≤ ((rI M 106 c) - (rI M 106 go)) then ((rI M 106 c) - (rI M 106 go)) else 0 - ((rI M 106 c) - (rI M 106 go))) then (if 0 ≤ ((rI M 107 c) - (rI M 107 go)) then ((rI M 107 c) - (rI M 107 go)) else 0 - ((rI M 107 c) - (rI M 107 go))) else (if 0 ≤ ((rI M 106 c) - (rI M 106 go)) then ((rI M 106 c) - (rI M 106 go)) else 0 - ((rI M 106 c) - (rI M 106 go)))))
theorem g_4 {e : Nat} {M M' : Mem} {v : Option Value} {c go : Int32} (hS : SQ M) (H : Ev none e 4 0 [some (.ref 105), some (.int c), some (.int go), none, none] [] M v M' 0 0) : v = some (.int (G_4 M c go)) ∧ M' = M := by
  unfold G_4
  have H : Ev none e 4 1 [some (.ref 105), some (.int c), some (.int go), none, none] [.ref 105] M v M' 0 0 := Ev.back 1 (fun n => rfl) H
  have H : Ev none e 4 4 [some (.ref 105), some (.int c), some (.int go), none, none] [.ref 106] M v M' 0 0 := Ev.back 1 (gs_3 rfl rfl (gf_u hS.1 qa_105 qr_23_0 qu_24 rfl)) H
  have H : Ev none e 4 5 [some (.ref 105), some (.int c), some (.int go), none, none] [.int c, .ref 106] M v M' 0 0 := Ev.back 1 (fun n => rfl) H
  obtain ⟨b1, H⟩ := Ev.ial rfl rfl hS.1 qa_106 qw_24 H
  have H : Ev none e 4 6 [some (.ref 105), some (.int c), some (.int go), none, none] [.int (rI M 106 c)] M v M' 0 0 := H
  have H : Ev none e 4 7 [some (.ref 105), some (.int c), some (.int go), none, none] [.ref 105, .int (rI M 106 c)] M v M' 0 0 := Ev.back 1 (fun n => rfl) H
  have H : Ev none e 4 10 [some (.ref 105), some (.int c), some (.int go), none, none] [.ref 106, .int (rI M 106 c)] M v M' 0 0 := Ev.back 1 (gs_3 rfl rfl (gf_u hS.1 qa_105 qr_23_0 qu_24 rfl)) H
  have H : Ev none e 4 11 [some (.ref 105), some (.int c), some (.int go), none, none] [.int go, .ref 106, .int (rI M 106 c)] M v M' 0 0 := Ev.back 1 (fun n => rfl) H
  obtain ⟨b2, H⟩ := Ev.ial rfl rfl hS.1 qa_106 qw_24 H
  have H : Ev none e 4 12 [some (.ref 105), some (.int c), some (.int go), none, none] [.int (rI M 106 go), .int (rI M 106 c)] M v M' 0 0 := H
  have H : Ev none e 4 13 [some (.ref 105), some (.int c), some (.int go), none, none] [.int ((rI M 106 c) - (rI M 106 go))] M v M' 0 0 := Ev.back 1 (fun n => rfl) H
  obtain ⟨e1, rfl⟩ := Ev.dpos rfl rfl H
  have H : Ev none (e1 + 1) 4 18 [some (.ref 105), some (.int c), some (.int go), some (.int (if 0 ≤ ((rI M 106 c) - (rI M 106 go)) then ((rI M 106 c) - (rI M 106 go)) else 0 - ((rI M 106 c) - (rI M 106 go)))), none] [.ref 105] M v M' 0 0 := Ev.back 3 (fun n => rfl) H
  have H : Ev none (e1 + 1) 4 21 [some (.ref 105), some (.int c), some (.int go), some (.int (if 0 ≤ ((rI M 106 c) - (rI M 106 go)) then ((rI M 106 c) - (rI M 106 go)) else 0 - ((rI M 106 c) - (rI M 106 go)))), none] [.ref 107] M v M' 0 0 := Ev.back 1 (gs_3 rfl rfl (gf_u hS.1 qa_105 qr_23_1 qu_25 rfl)) H
  have H : Ev none (e1 + 1) 4 22 [some (.ref 105), some (.int c), some (.int go), some (.int (if 0 ≤ ((rI M 106 c) - (rI M 106 go)) then ((rI M 106 c) - (rI M 106 go)) else 0 - ((rI M 106 c) - (rI M 106 go)))), none] [.int c, .ref 107] M v M' 0 0 := Ev.back 1 (fun n => rfl) H
  obtain ⟨b3, H⟩ := Ev.ial rfl rfl hS.1 qa_107 qw_25 H
  have H : Ev none (e1 + 1) 4 23 [some (.ref 105), some (.int c), some (.int go), some (.int (if 0 ≤ ((rI M 106 c) - (rI M 106 go)) then ((rI M 106 c) - (rI M 106 go)) else 0 - ((rI M 106 c) - (rI M 106 go)))), none] [.int (rI M 107 c)] M v M' 0 0 := H
  have H : Ev none (e1 + 1) 4 24 [some (.ref 105), some (.int c), some (.int go), some (.int (if 0 ≤ ((rI M 106 c) - (rI M 106 go)) then ((rI M 106 c) - (rI M 106 go)) else 0 - ((rI M 106 c) - (rI M 106 go)))), none] [.ref 105, .int (rI M 107 c)] M v M' 0 0 := Ev.back 1 (fun n => rfl) H
  have H : Ev none (e1 + 1) 4 27 [some (.ref 105), some (.int c), some (.int go), some (.int (if 0 ≤ ((rI M 106 c) - (rI M 106 go)) then ((rI M 106 c) - (rI M 106 go)) else 0 - ((rI M 106 c) - (rI M 106 go)))), none] [.ref 107, .int (rI M 107 c)] M v M' 0 0 := Ev.back 1 (gs_3 rfl rfl (gf_u hS.1 qa_105 qr_23_1 qu_25 rfl)) H
  have H : Ev none (e1 + 1) 4 28 [some (.ref 105), some (.int c), some (.int go), some (.int (if 0 ≤ ((rI M 106 c) - (rI M 106 go)) then ((rI M 106 c) - (rI M 106 go)) else 0 - ((rI M 106 c) - (rI M 106 go)))), none] [.int go, .ref 107, .int (rI M 107 c)] M v M' 0 0 := Ev.back 1 (fun n => rfl) H
  obtain ⟨b4, H⟩ := Ev.ial rfl rfl hS.1 qa_107 qw_25 H
  have H : Ev none (e1 + 1) 4 29 [some (.ref 105), some (.int c), some (.int go), some (.int (if 0 ≤ ((rI M 106 c) - (rI M 106 go)) then ((rI M 106 c) - (rI M 106 go)) else 0 - ((rI M 106 c) - (rI M 106 go)))), none] [.int (rI M 107 go), .int (rI M 107 c)] M v M' 0 0 := H
  have H : Ev none (e1 + 1) 4 53 [some (.ref 105), some (.int c), some (.int go), some (.int (if 0 ≤ ((rI M 106 c) - (rI M 106 go)) then ((rI M 106 c) - (rI M 106 go)) else 0 - ((rI M 106 c) - (rI M 106 go)))), some (.int (if 0 ≤ ((rI M 107 c) - (rI M 107 go)) then ((rI M 107 c) - (rI M 107 go)) else 0 - ((rI M 107 c) - (rI M 107 go))))] [.int ((10 * (if (if 0 ≤ ((rI M 106 c) - (rI M 106 go)) then ((rI M 106 c) - (rI M 106 go)) else 0 - ((rI M 106 c) - (rI M 106 go))) < (if 0 ≤ ((rI M 107 c) - (rI M 107 go)) then ((rI M 107 c) - (rI M 107 go)) else 0 - ((rI M 107 c) - (rI M 107 go))) then (if 0 ≤ ((rI M 107 c) - (rI M 107 go)) then ((rI M 107 c) - (rI M 107 go)) else 0 - ((rI M 107 c) - (rI M 107 go))) else (if 0 ≤ ((rI M 106 c) - (rI M 106 go)) then ((rI M 106 c) - (rI M 106 go)) else 0 - ((rI M 106 c) - (rI M 106 go))))) + (4 * (if (if 0 ≤ ((rI M 107 c) - (rI M 107 go)) then ((rI M 107 c) - (rI M 107 go)) else 0 - ((rI M 107 c) - (rI M 107 go))) < (if 0 ≤ ((rI M 106 c) - (rI M 106 go)) then ((rI M 106 c) - (rI M 106 go)) else 0 - ((rI M 106 c) - (rI M 106 go))) then (if 0 ≤ ((rI M 107 c) - (rI M 107 go)) then ((rI M 107 c) - (rI M 107 go)) else 0 - ((rI M 107 c) - (rI M 107 go))) else (if 0 ≤ ((rI M 106 c) - (rI M 106 go)) then ((rI M 106 c) - (rI M 106 go)) else 0 - ((rI M 106 c) - (rI M 106 go))))))] M v M' 0 0 := Ev.back 14 (fun n => rfl) H
  obtain ⟨p1, p2⟩ := Ev.retz rfl rfl H
  exact ⟨p1, p2⟩
theorem wto_0 {e : Nat} {M M' : Mem} {v : Option Value} {c go : Int32} (hS : SQ M) (H : Ev none e 3 0 [some (.ref 105), some (.int c), some (.int go), none] [] M v M' 0 0) : Ev none e 3 2 [some (.ref 105), some (.int c), some (.int go), some (.int 0)] [] M v M' 0 0 := by
  have H : Ev none e 3 2 [some (.ref 105), some (.int c), some (.int go), some (.int 0)] [] M v M' 0 0 := Ev.back 2 (fun n => rfl) H
  have HF := H
  exact HF
theorem wto_2 {e : Nat} {M M' : Mem} {v : Option Value} {c go d : Int32} (hS : SQ M) (H : Ev none e 3 2 [some (.ref 105), some (.int c), some (.int go), some (.int d)] [] M v M' 0 0) : (8 ≤ d ∧ v = some (.int (-1)) ∧ M' = M) ∨ (¬ (8 ≤ d) ∧ (rI M 108 ((8 * c) + d)) = go ∧ (0 ≤ ((8 * c) + d).toInt ∧ ((8 * c) + d).toInt < 2048) ∧ v = some (.int d) ∧ M' = M) ∨ (¬ (8 ≤ d) ∧ ¬ ((rI M 108 ((8 * c) + d)) = go) ∧ (0 ≤ ((8 * c) + d).toInt ∧ ((8 * c) + d).toInt < 2048) ∧ Ev none e 3 2 [some (.ref 105), some (.int c), some (.int go), some (.int (d + 1))] [] M v M' 0 0) := by
  have H : Ev none e 3 (if 8 ≤ d then 31 else 8) [some (.ref 105), some (.int c), some (.int go), some (.int d)] [] M v M' 0 0 := Ev.back 3 (fun n => rfl) H
  by_cases h1 : 8 ≤ d
  · rw [if_pos h1] at H
    have H : Ev none e 3 32 [some (.ref 105), some (.int c), some (.int go), some (.int d)] [.int (-1)] M v M' 0 0 := Ev.back 1 (fun n => rfl) H
    obtain ⟨z1, z2⟩ := Ev.retz rfl rfl H
    exact Or.inl ⟨h1, z1, z2⟩
  · rw [if_neg h1] at H
    have H : Ev none e 3 9 [some (.ref 105), some (.int c), some (.int go), some (.int d)] [.ref 105] M v M' 0 0 := Ev.back 1 (fun n => rfl) H
    have H : Ev none e 3 12 [some (.ref 105), some (.int c), some (.int go), some (.int d)] [.ref 108] M v M' 0 0 := Ev.back 1 (gs_3 rfl rfl (gf_u hS.1 qa_105 qr_23_2 qu_26 rfl)) H
    have H : Ev none e 3 18 [some (.ref 105), some (.int c), some (.int go), some (.int d)] [.int ((8 * c) + d), .ref 108] M v M' 0 0 := Ev.back 5 (fun n => rfl) H
    obtain ⟨b2, H⟩ := Ev.ial rfl rfl hS.1 qa_108 qw_26 H
    have H : Ev none e 3 19 [some (.ref 105), some (.int c), some (.int go), some (.int d)] [.int (rI M 108 ((8 * c) + d))] M v M' 0 0 := H
    have H : Ev none e 3 (if (rI M 108 ((8 * c) + d)) = go then 23 else 25) [some (.ref 105), some (.int c), some (.int go), some (.int d)] [] M v M' 0 0 := Ev.back 2 (fun n => rfl) H
    by_cases h3 : (rI M 108 ((8 * c) + d)) = go
    · rw [if_pos h3] at H
      have H : Ev none e 3 24 [some (.ref 105), some (.int c), some (.int go), some (.int d)] [.int d] M v M' 0 0 := Ev.back 1 (fun n => rfl) H
      obtain ⟨z1, z2⟩ := Ev.retz rfl rfl H
      exact Or.inr (Or.inl ⟨h1, h3, b2, z1, z2⟩)
    · rw [if_neg h3] at H
      have H : Ev none e 3 2 [some (.ref 105), some (.int c), some (.int go), some (.int (d + 1))] [] M v M' 0 0 := Ev.back 2 (fun n => rfl) H
      have HF := H
      exact Or.inr (Or.inr (⟨h1, h3, b2, HF⟩))
theorem weiw_0 {e : Nat} {M M' : Mem} {v : Option Value} {av d si : Int32} {b : Nat} (hS : SQ M) (a_b : gNth sT b = some 21) (H : Ev none e 68 0 [some (.ref 104), some (.ref b), some (.int av), some (.int d), some (.int si), none, none] [] M v M' 0 0) : ((rI M (oI M 129 0) av) ≤ 0 ∧ (0 ≤ (0 : Int32).toInt ∧ (0 : Int32).toInt < 7) ∧ (0 ≤ av.toInt ∧ av.toInt < 1536) ∧ Ev none e 68 72 [some (.ref 104), some (.ref b), some (.int av), some (.int d), some (.int si), some (.int (av - av / 256 * 256)), some (.int 0)] [] M v M' 0 0) ∨ (¬ ((rI M (oI M 129 0) av) ≤ 0) ∧ (G_8 M (fR M 104 7) (av - av / 256 * 256)) = 0 ∧ (0 ≤ (0 : Int32).toInt ∧ (0 : Int32).toInt < 7) ∧ (0 ≤ av.toInt ∧ av.toInt < 1536) ∧ Ev none e 68 72 [some (.ref 104), some (.ref b), some (.int av), some (.int d), some (.int si), some (.int (av - av / 256 * 256)), some (.int 0)] [] M v M' 0 0) ∨ (¬ ((rI M (oI M 129 0) av) ≤ 0) ∧ ¬ ((G_8 M (fR M 104 7) (av - av / 256 * 256)) = 0) ∧ (0 ≤ (0 : Int32).toInt ∧ (0 : Int32).toInt < 7) ∧ (0 ≤ av.toInt ∧ av.toInt < 1536) ∧ (0 ≤ (0 : Int32).toInt ∧ (0 : Int32).toInt < 7) ∧ (0 ≤ av.toInt ∧ av.toInt < 1536) ∧ (0 ≤ (av - av / 256 * 256).toInt ∧ (av - av / 256 * 256).toInt < 256) ∧ Ev none e 68 72 [some (.ref 104), some (.ref b), some (.int av), some (.int d), some (.int si), some (.int (av - av / 256 * 256)), some (.int (0 + ((rI M (oI M 129 0) av) * ((if 0 < ((zI M (fR M 104 2) 10) - (rI M (fR M 104 7 + 4) (av - av / 256 * 256))) then ((zI M (fR M 104 2) 10) - (rI M (fR M 104 7 + 4) (av - av / 256 * 256))) else 0) / 10))))] [] M v M' 0 0) := by
  have H : Ev none e 68 11 [some (.ref 104), some (.ref b), some (.int av), some (.int d), some (.int si), some (.int (av - av / 256 * 256)), some (.int 0)] [.ref 104] M v M' 0 0 := Ev.back 7 (fun n => rfl) H
  have H : Ev none e 68 14 [some (.ref 104), some (.ref b), some (.int av), some (.int d), some (.int si), some (.int (av - av / 256 * 256)), some (.int 0)] [.ref 129] M v M' 0 0 := Ev.back 1 (gs_3 rfl rfl (gf_u hS.1 qa_104 qr_22_5 qu_38 rfl)) H
  have H : Ev none e 68 15 [some (.ref 104), some (.ref b), some (.int av), some (.int d), some (.int si), some (.int (av - av / 256 * 256)), some (.int 0)] [.int 0, .ref 129] M v M' 0 0 := Ev.back 1 (fun n => rfl) H
  obtain ⟨b1, H⟩ := Ev.aal rfl rfl hS.1 qa_129 qz_38 H
  have H : Ev none e 68 16 [some (.ref 104), some (.ref b), some (.int av), some (.int d), some (.int si), some (.int (av - av / 256 * 256)), some (.int 0)] [.ref (oI M 129 0)] M v M' 0 0 := H
  have H : Ev none e 68 17 [some (.ref 104), some (.ref b), some (.int av), some (.int d), some (.int si), some (.int (av - av / 256 * 256)), some (.int 0)] [.int av, .ref (oI M 129 0)] M v M' 0 0 := Ev.back 1 (fun n => rfl) H
  obtain ⟨b2, H⟩ := Ev.ial rfl rfl hS.1 b1.2 qw_39 H
  have H : Ev none e 68 18 [some (.ref 104), some (.ref b), some (.int av), some (.int d), some (.int si), some (.int (av - av / 256 * 256)), some (.int 0)] [.int (rI M (oI M 129 0) av)] M v M' 0 0 := H
  have H : Ev none e 68 (if (rI M (oI M 129 0) av) ≤ 0 then 72 else 21) [some (.ref 104), some (.ref b), some (.int av), some (.int d), some (.int si), some (.int (av - av / 256 * 256)), some (.int 0)] [] M v M' 0 0 := Ev.back 1 (fun n => rfl) H
  by_cases h3 : (rI M (oI M 129 0) av) ≤ 0
  · rw [if_pos h3] at H
    have HF := H
    exact Or.inl ⟨h3, b1.1, b2, HF⟩
  · rw [if_neg h3] at H
    have H : Ev none e 68 22 [some (.ref 104), some (.ref b), some (.int av), some (.int d), some (.int si), some (.int (av - av / 256 * 256)), some (.int 0)] [.ref 104] M v M' 0 0 := Ev.back 1 (fun n => rfl) H
    have H : Ev none e 68 25 [some (.ref 104), some (.ref b), some (.int av), some (.int d), some (.int si), some (.int (av - av / 256 * 256)), some (.int 0)] [.ref (fR M 104 7)] M v M' 0 0 := Ev.back 1 (gs_3 rfl rfl (gf_r hS.1 qa_104 qr_22_7 rfl)) H
    have H : Ev none e 68 27 [some (.ref 104), some (.ref b), some (.int av), some (.int d), some (.int si), some (.int (av - av / 256 * 256)), some (.int 0)] [.int (av - av / 256 * 256), .ref (fR M 104 7)] M v M' 0 0 := Ev.back 1 (fun n => rfl) H
    obtain ⟨e1, rfl⟩ := Ev.dpos rfl rfl H
    obtain ⟨vK4, MK4, K4, H⟩ := Ev.callb (fun n_ => gs_7 rfl rfl (show gCal (.invokevirtual 178) 7 (.int (av - av / 256 * 256) :: .ref (fR M 104 7) :: []) M = some (.inr (8, [some (.ref (fR M 104 7)), some (.int (av - av / 256 * 256))], [])) from by show @cond (Option ((List Value × Mem) ⊕ (Nat × Lo × List Value))) (true && gRecv M (.ref (fR M 104 7)) 1 && gRoom [] && true) (some (.inr (8, [some (.ref (fR M 104 7)), some (.int (av - av / 256 * 256))], []))) none = _; rw [recv_s hS.1 (hS.1.fr qa_104 qr_22_7).2 qo_8]; rfl)) H
    obtain ⟨pK4, qK4⟩ := g_8 hS (hS.1.fr qa_104 qr_22_7).2 K4
    rw [pK4, qK4] at H
    have H : Ev none (e1 + 1) 68 30 [some (.ref 104), some (.ref b), some (.int av), some (.int d), some (.int si), some (.int (av - av / 256 * 256)), some (.int 0)] [.int (G_8 M (fR M 104 7) (av - av / 256 * 256))] M v M' 0 0 := H
    have H : Ev none (e1 + 1) 68 (if (G_8 M (fR M 104 7) (av - av / 256 * 256)) = 0 then 72 else 33) [some (.ref 104), some (.ref b), some (.int av), some (.int d), some (.int si), some (.int (av - av / 256 * 256)), some (.int 0)] [] M v M' 0 0 := Ev.back 1 (fun n => rfl) H
    by_cases h5 : (G_8 M (fR M 104 7) (av - av / 256 * 256)) = 0
    · rw [if_pos h5] at H
      have HF := H
      exact Or.inr (Or.inl ⟨h3, h5, b1.1, b2, HF⟩)
    · rw [if_neg h5] at H
      have H : Ev none (e1 + 1) 68 36 [some (.ref 104), some (.ref b), some (.int av), some (.int d), some (.int si), some (.int (av - av / 256 * 256)), some (.int 0)] [.ref 104, .int 0] M v M' 0 0 := Ev.back 2 (fun n => rfl) H
      have H : Ev none (e1 + 1) 68 39 [some (.ref 104), some (.ref b), some (.int av), some (.int d), some (.int si), some (.int (av - av / 256 * 256)), some (.int 0)] [.ref 129, .int 0] M v M' 0 0 := Ev.back 1 (gs_3 rfl rfl (gf_u hS.1 qa_104 qr_22_5 qu_38 rfl)) H
      have H : Ev none (e1 + 1) 68 40 [some (.ref 104), some (.ref b), some (.int av), some (.int d), some (.int si), some (.int (av - av / 256 * 256)), some (.int 0)] [.int 0, .ref 129, .int 0] M v M' 0 0 := Ev.back 1 (fun n => rfl) H
      obtain ⟨b6, H⟩ := Ev.aal rfl rfl hS.1 qa_129 qz_38 H
      have H : Ev none (e1 + 1) 68 41 [some (.ref 104), some (.ref b), some (.int av), some (.int d), some (.int si), some (.int (av - av / 256 * 256)), some (.int 0)] [.ref (oI M 129 0), .int 0] M v M' 0 0 := H
      have H : Ev none (e1 + 1) 68 42 [some (.ref 104), some (.ref b), some (.int av), some (.int d), some (.int si), some (.int (av - av / 256 * 256)), some (.int 0)] [.int av, .ref (oI M 129 0), .int 0] M v M' 0 0 := Ev.back 1 (fun n => rfl) H
      obtain ⟨b7, H⟩ := Ev.ial rfl rfl hS.1 b6.2 qw_39 H
      have H : Ev none (e1 + 1) 68 43 [some (.ref 104), some (.ref b), some (.int av), some (.int d), some (.int si), some (.int (av - av / 256 * 256)), some (.int 0)] [.int (rI M (oI M 129 0) av), .int 0] M v M' 0 0 := H
      have H : Ev none (e1 + 1) 68 45 [some (.ref 104), some (.ref b), some (.int av), some (.int d), some (.int si), some (.int (av - av / 256 * 256)), some (.int 0)] [.ref 104, .int 0, .int (rI M (oI M 129 0) av), .int 0] M v M' 0 0 := Ev.back 2 (fun n => rfl) H
      have H : Ev none (e1 + 1) 68 48 [some (.ref 104), some (.ref b), some (.int av), some (.int d), some (.int si), some (.int (av - av / 256 * 256)), some (.int 0)] [.ref (fR M 104 2), .int 0, .int (rI M (oI M 129 0) av), .int 0] M v M' 0 0 := Ev.back 1 (gs_3 rfl rfl (gf_r hS.1 qa_104 qr_22_2 rfl)) H
      have H : Ev none (e1 + 1) 68 51 [some (.ref 104), some (.ref b), some (.int av), some (.int d), some (.int si), some (.int (av - av / 256 * 256)), some (.int 0)] [.int (zI M (fR M 104 2) 10), .int 0, .int (rI M (oI M 129 0) av), .int 0] M v M' 0 0 := Ev.back 1 (gs_3 rfl rfl (gf_i hS.1 (hS.1.fr qa_104 qr_22_2).2 qi_28_10 rfl)) H
      have H : Ev none (e1 + 1) 68 52 [some (.ref 104), some (.ref b), some (.int av), some (.int d), some (.int si), some (.int (av - av / 256 * 256)), some (.int 0)] [.ref 104, .int (zI M (fR M 104 2) 10), .int 0, .int (rI M (oI M 129 0) av), .int 0] M v M' 0 0 := Ev.back 1 (fun n => rfl) H
      have H : Ev none (e1 + 1) 68 55 [some (.ref 104), some (.ref b), some (.int av), some (.int d), some (.int si), some (.int (av - av / 256 * 256)), some (.int 0)] [.ref (fR M 104 7), .int (zI M (fR M 104 2) 10), .int 0, .int (rI M (oI M 129 0) av), .int 0] M v M' 0 0 := Ev.back 1 (gs_3 rfl rfl (gf_r hS.1 qa_104 qr_22_7 rfl)) H
      have H : Ev none (e1 + 1) 68 58 [some (.ref 104), some (.ref b), some (.int av), some (.int d), some (.int si), some (.int (av - av / 256 * 256)), some (.int 0)] [.ref (fR M 104 7 + 4), .int (zI M (fR M 104 2) 10), .int 0, .int (rI M (oI M 129 0) av), .int 0] M v M' 0 0 := Ev.back 1 (gs_3 rfl rfl (gf_x hS.1 (hS.1.fr qa_104 qr_22_7).2 qo_8 (fx_l5 hS (hS.1.fr qa_104 qr_22_7).2) rfl)) H
      have H : Ev none (e1 + 1) 68 60 [some (.ref 104), some (.ref b), some (.int av), some (.int d), some (.int si), some (.int (av - av / 256 * 256)), some (.int 0)] [.int (av - av / 256 * 256), .ref (fR M 104 7 + 4), .int (zI M (fR M 104 2) 10), .int 0, .int (rI M (oI M 129 0) av), .int 0] M v M' 0 0 := Ev.back 1 (fun n => rfl) H
      obtain ⟨b8, H⟩ := Ev.ial rfl rfl hS.1 (fx_h5 (hS.1.fr qa_104 qr_22_7).2) qw_12 H
      have H : Ev none (e1 + 1) 68 61 [some (.ref 104), some (.ref b), some (.int av), some (.int d), some (.int si), some (.int (av - av / 256 * 256)), some (.int 0)] [.int (rI M (fR M 104 7 + 4) (av - av / 256 * 256)), .int (zI M (fR M 104 2) 10), .int 0, .int (rI M (oI M 129 0) av), .int 0] M v M' 0 0 := H
      have H : Ev none (e1 + 1) 68 72 [some (.ref 104), some (.ref b), some (.int av), some (.int d), some (.int si), some (.int (av - av / 256 * 256)), some (.int (0 + ((rI M (oI M 129 0) av) * ((if 0 < ((zI M (fR M 104 2) 10) - (rI M (fR M 104 7 + 4) (av - av / 256 * 256))) then ((zI M (fR M 104 2) 10) - (rI M (fR M 104 7 + 4) (av - av / 256 * 256))) else 0) / 10))))] [] M v M' 0 0 := Ev.back 7 (fun n => rfl) H
      have HF := H
      exact Or.inr (Or.inr (⟨h3, h5, b1.1, b2, b6.1, b7, b8, HF⟩))
theorem weiw_72 {e : Nat} {M M' : Mem} {v : Option Value} {av d si c wt : Int32} {b : Nat} (hS : SQ M) (a_b : gNth sT b = some 21) (H : Ev none e 68 72 [some (.ref 104), some (.ref b), some (.int av), some (.int d), some (.int si), some (.int c), some (.int wt)] [] M v M' 0 0) : (0 ≤ (1 : Int32).toInt ∧ (1 : Int32).toInt < 7) ∧ (0 ≤ av.toInt ∧ av.toInt < 1536) ∧ (0 ≤ c.toInt ∧ c.toInt < 256) ∧ (0 ≤ (2 : Int32).toInt ∧ (2 : Int32).toInt < 7) ∧ (0 ≤ av.toInt ∧ av.toInt < 1536) ∧ (0 ≤ c.toInt ∧ c.toInt < 256) ∧ (0 ≤ (zI M b 0).toInt ∧ (zI M b 0).toInt < 256) ∧ Ev none e 68 139 [some (.ref 104), some (.ref b), some (.int av), some (.int d), some (.int si), some (.int c), some (.int ((wt + ((rI M (oI M 129 1) av) * ((rI M (fR M 104 7 + 5) c) / 10))) + ((rI M (oI M 129 2) av) * (if 0 ≤ ((rI M (fR M 104 7 + 3) c) - (rI M (fR M 104 7 + 3) (zI M b 0))) then ((rI M (fR M 104 7 + 3) c) - (rI M (fR M 104 7 + 3) (zI M b 0))) else 0 - ((rI M (fR M 104 7 + 3) c) - (rI M (fR M 104 7 + 3) (zI M b 0)))))))] [] M v M' 0 0 := by
  have H : Ev none e 68 75 [some (.ref 104), some (.ref b), some (.int av), some (.int d), some (.int si), some (.int c), some (.int wt)] [.ref 104, .int wt] M v M' 0 0 := Ev.back 2 (fun n => rfl) H
  have H : Ev none e 68 78 [some (.ref 104), some (.ref b), some (.int av), some (.int d), some (.int si), some (.int c), some (.int wt)] [.ref 129, .int wt] M v M' 0 0 := Ev.back 1 (gs_3 rfl rfl (gf_u hS.1 qa_104 qr_22_5 qu_38 rfl)) H
  have H : Ev none e 68 79 [some (.ref 104), some (.ref b), some (.int av), some (.int d), some (.int si), some (.int c), some (.int wt)] [.int 1, .ref 129, .int wt] M v M' 0 0 := Ev.back 1 (fun n => rfl) H
  obtain ⟨b1, H⟩ := Ev.aal rfl rfl hS.1 qa_129 qz_38 H
  have H : Ev none e 68 80 [some (.ref 104), some (.ref b), some (.int av), some (.int d), some (.int si), some (.int c), some (.int wt)] [.ref (oI M 129 1), .int wt] M v M' 0 0 := H
  have H : Ev none e 68 81 [some (.ref 104), some (.ref b), some (.int av), some (.int d), some (.int si), some (.int c), some (.int wt)] [.int av, .ref (oI M 129 1), .int wt] M v M' 0 0 := Ev.back 1 (fun n => rfl) H
  obtain ⟨b2, H⟩ := Ev.ial rfl rfl hS.1 b1.2 qw_39 H
  have H : Ev none e 68 82 [some (.ref 104), some (.ref b), some (.int av), some (.int d), some (.int si), some (.int c), some (.int wt)] [.int (rI M (oI M 129 1) av), .int wt] M v M' 0 0 := H
  have H : Ev none e 68 83 [some (.ref 104), some (.ref b), some (.int av), some (.int d), some (.int si), some (.int c), some (.int wt)] [.ref 104, .int (rI M (oI M 129 1) av), .int wt] M v M' 0 0 := Ev.back 1 (fun n => rfl) H
  have H : Ev none e 68 86 [some (.ref 104), some (.ref b), some (.int av), some (.int d), some (.int si), some (.int c), some (.int wt)] [.ref (fR M 104 7), .int (rI M (oI M 129 1) av), .int wt] M v M' 0 0 := Ev.back 1 (gs_3 rfl rfl (gf_r hS.1 qa_104 qr_22_7 rfl)) H
  have H : Ev none e 68 89 [some (.ref 104), some (.ref b), some (.int av), some (.int d), some (.int si), some (.int c), some (.int wt)] [.ref (fR M 104 7 + 5), .int (rI M (oI M 129 1) av), .int wt] M v M' 0 0 := Ev.back 1 (gs_3 rfl rfl (gf_x hS.1 (hS.1.fr qa_104 qr_22_7).2 qo_8 (fx_l6 hS (hS.1.fr qa_104 qr_22_7).2) rfl)) H
  have H : Ev none e 68 91 [some (.ref 104), some (.ref b), some (.int av), some (.int d), some (.int si), some (.int c), some (.int wt)] [.int c, .ref (fR M 104 7 + 5), .int (rI M (oI M 129 1) av), .int wt] M v M' 0 0 := Ev.back 1 (fun n => rfl) H
  obtain ⟨b3, H⟩ := Ev.ial rfl rfl hS.1 (fx_h6 (hS.1.fr qa_104 qr_22_7).2) qw_13 H
  have H : Ev none e 68 92 [some (.ref 104), some (.ref b), some (.int av), some (.int d), some (.int si), some (.int c), some (.int wt)] [.int (rI M (fR M 104 7 + 5) c), .int (rI M (oI M 129 1) av), .int wt] M v M' 0 0 := H
  have H : Ev none e 68 102 [some (.ref 104), some (.ref b), some (.int av), some (.int d), some (.int si), some (.int c), some (.int (wt + ((rI M (oI M 129 1) av) * ((rI M (fR M 104 7 + 5) c) / 10))))] [.ref 104, .int (wt + ((rI M (oI M 129 1) av) * ((rI M (fR M 104 7 + 5) c) / 10)))] M v M' 0 0 := Ev.back 7 (fun n => rfl) H
  have H : Ev none e 68 105 [some (.ref 104), some (.ref b), some (.int av), some (.int d), some (.int si), some (.int c), some (.int (wt + ((rI M (oI M 129 1) av) * ((rI M (fR M 104 7 + 5) c) / 10))))] [.ref 129, .int (wt + ((rI M (oI M 129 1) av) * ((rI M (fR M 104 7 + 5) c) / 10)))] M v M' 0 0 := Ev.back 1 (gs_3 rfl rfl (gf_u hS.1 qa_104 qr_22_5 qu_38 rfl)) H
  have H : Ev none e 68 106 [some (.ref 104), some (.ref b), some (.int av), some (.int d), some (.int si), some (.int c), some (.int (wt + ((rI M (oI M 129 1) av) * ((rI M (fR M 104 7 + 5) c) / 10))))] [.int 2, .ref 129, .int (wt + ((rI M (oI M 129 1) av) * ((rI M (fR M 104 7 + 5) c) / 10)))] M v M' 0 0 := Ev.back 1 (fun n => rfl) H
  obtain ⟨b4, H⟩ := Ev.aal rfl rfl hS.1 qa_129 qz_38 H
  have H : Ev none e 68 107 [some (.ref 104), some (.ref b), some (.int av), some (.int d), some (.int si), some (.int c), some (.int (wt + ((rI M (oI M 129 1) av) * ((rI M (fR M 104 7 + 5) c) / 10))))] [.ref (oI M 129 2), .int (wt + ((rI M (oI M 129 1) av) * ((rI M (fR M 104 7 + 5) c) / 10)))] M v M' 0 0 := H
  have H : Ev none e 68 108 [some (.ref 104), some (.ref b), some (.int av), some (.int d), some (.int si), some (.int c), some (.int (wt + ((rI M (oI M 129 1) av) * ((rI M (fR M 104 7 + 5) c) / 10))))] [.int av, .ref (oI M 129 2), .int (wt + ((rI M (oI M 129 1) av) * ((rI M (fR M 104 7 + 5) c) / 10)))] M v M' 0 0 := Ev.back 1 (fun n => rfl) H
  obtain ⟨b5, H⟩ := Ev.ial rfl rfl hS.1 b4.2 qw_39 H
  have H : Ev none e 68 109 [some (.ref 104), some (.ref b), some (.int av), some (.int d), some (.int si), some (.int c), some (.int (wt + ((rI M (oI M 129 1) av) * ((rI M (fR M 104 7 + 5) c) / 10))))] [.int (rI M (oI M 129 2) av), .int (wt + ((rI M (oI M 129 1) av) * ((rI M (fR M 104 7 + 5) c) / 10)))] M v M' 0 0 := H
  have H : Ev none e 68 110 [some (.ref 104), some (.ref b), some (.int av), some (.int d), some (.int si), some (.int c), some (.int (wt + ((rI M (oI M 129 1) av) * ((rI M (fR M 104 7 + 5) c) / 10))))] [.ref 104, .int (rI M (oI M 129 2) av), .int (wt + ((rI M (oI M 129 1) av) * ((rI M (fR M 104 7 + 5) c) / 10)))] M v M' 0 0 := Ev.back 1 (fun n => rfl) H
  have H : Ev none e 68 113 [some (.ref 104), some (.ref b), some (.int av), some (.int d), some (.int si), some (.int c), some (.int (wt + ((rI M (oI M 129 1) av) * ((rI M (fR M 104 7 + 5) c) / 10))))] [.ref (fR M 104 7), .int (rI M (oI M 129 2) av), .int (wt + ((rI M (oI M 129 1) av) * ((rI M (fR M 104 7 + 5) c) / 10)))] M v M' 0 0 := Ev.back 1 (gs_3 rfl rfl (gf_r hS.1 qa_104 qr_22_7 rfl)) H
  have H : Ev none e 68 116 [some (.ref 104), some (.ref b), some (.int av), some (.int d), some (.int si), some (.int c), some (.int (wt + ((rI M (oI M 129 1) av) * ((rI M (fR M 104 7 + 5) c) / 10))))] [.ref (fR M 104 7 + 3), .int (rI M (oI M 129 2) av), .int (wt + ((rI M (oI M 129 1) av) * ((rI M (fR M 104 7 + 5) c) / 10)))] M v M' 0 0 := Ev.back 1 (gs_3 rfl rfl (gf_x hS.1 (hS.1.fr qa_104 qr_22_7).2 qo_8 (fx_l4 hS (hS.1.fr qa_104 qr_22_7).2) rfl)) H
  have H : Ev none e 68 118 [some (.ref 104), some (.ref b), some (.int av), some (.int d), some (.int si), some (.int c), some (.int (wt + ((rI M (oI M 129 1) av) * ((rI M (fR M 104 7 + 5) c) / 10))))] [.int c, .ref (fR M 104 7 + 3), .int (rI M (oI M 129 2) av), .int (wt + ((rI M (oI M 129 1) av) * ((rI M (fR M 104 7 + 5) c) / 10)))] M v M' 0 0 := Ev.back 1 (fun n => rfl) H
  obtain ⟨b6, H⟩ := Ev.ial rfl rfl hS.1 (fx_h4 (hS.1.fr qa_104 qr_22_7).2) qw_11 H
  have H : Ev none e 68 119 [some (.ref 104), some (.ref b), some (.int av), some (.int d), some (.int si), some (.int c), some (.int (wt + ((rI M (oI M 129 1) av) * ((rI M (fR M 104 7 + 5) c) / 10))))] [.int (rI M (fR M 104 7 + 3) c), .int (rI M (oI M 129 2) av), .int (wt + ((rI M (oI M 129 1) av) * ((rI M (fR M 104 7 + 5) c) / 10)))] M v M' 0 0 := H
  have H : Ev none e 68 120 [some (.ref 104), some (.ref b), some (.int av), some (.int d), some (.int si), some (.int c), some (.int (wt + ((rI M (oI M 129 1) av) * ((rI M (fR M 104 7 + 5) c) / 10))))] [.ref 104, .int (rI M (fR M 104 7 + 3) c), .int (rI M (oI M 129 2) av), .int (wt + ((rI M (oI M 129 1) av) * ((rI M (fR M 104 7 + 5) c) / 10)))] M v M' 0 0 := Ev.back 1 (fun n => rfl) H
  have H : Ev none e 68 123 [some (.ref 104), some (.ref b), some (.int av), some (.int d), some (.int si), some (.int c), some (.int (wt + ((rI M (oI M 129 1) av) * ((rI M (fR M 104 7 + 5) c) / 10))))] [.ref (fR M 104 7), .int (rI M (fR M 104 7 + 3) c), .int (rI M (oI M 129 2) av), .int (wt + ((rI M (oI M 129 1) av) * ((rI M (fR M 104 7 + 5) c) / 10)))] M v M' 0 0 := Ev.back 1 (gs_3 rfl rfl (gf_r hS.1 qa_104 qr_22_7 rfl)) H
  have H : Ev none e 68 126 [some (.ref 104), some (.ref b), some (.int av), some (.int d), some (.int si), some (.int c), some (.int (wt + ((rI M (oI M 129 1) av) * ((rI M (fR M 104 7 + 5) c) / 10))))] [.ref (fR M 104 7 + 3), .int (rI M (fR M 104 7 + 3) c), .int (rI M (oI M 129 2) av), .int (wt + ((rI M (oI M 129 1) av) * ((rI M (fR M 104 7 + 5) c) / 10)))] M v M' 0 0 := Ev.back 1 (gs_3 rfl rfl (gf_x hS.1 (hS.1.fr qa_104 qr_22_7).2 qo_8 (fx_l4 hS (hS.1.fr qa_104 qr_22_7).2) rfl)) H
  have H : Ev none e 68 127 [some (.ref 104), some (.ref b), some (.int av), some (.int d), some (.int si), some (.int c), some (.int (wt + ((rI M (oI M 129 1) av) * ((rI M (fR M 104 7 + 5) c) / 10))))] [.ref b, .ref (fR M 104 7 + 3), .int (rI M (fR M 104 7 + 3) c), .int (rI M (oI M 129 2) av), .int (wt + ((rI M (oI M 129 1) av) * ((rI M (fR M 104 7 + 5) c) / 10)))] M v M' 0 0 := Ev.back 1 (fun n => rfl) H
  have H : Ev none e 68 130 [some (.ref 104), some (.ref b), some (.int av), some (.int d), some (.int si), some (.int c), some (.int (wt + ((rI M (oI M 129 1) av) * ((rI M (fR M 104 7 + 5) c) / 10))))] [.int (zI M b 0), .ref (fR M 104 7 + 3), .int (rI M (fR M 104 7 + 3) c), .int (rI M (oI M 129 2) av), .int (wt + ((rI M (oI M 129 1) av) * ((rI M (fR M 104 7 + 5) c) / 10)))] M v M' 0 0 := Ev.back 1 (gs_3 rfl rfl (gf_i hS.1 a_b qi_21_0 rfl)) H
  obtain ⟨b7, H⟩ := Ev.ial rfl rfl hS.1 (fx_h4 (hS.1.fr qa_104 qr_22_7).2) qw_11 H
  have H : Ev none e 68 131 [some (.ref 104), some (.ref b), some (.int av), some (.int d), some (.int si), some (.int c), some (.int (wt + ((rI M (oI M 129 1) av) * ((rI M (fR M 104 7 + 5) c) / 10))))] [.int (rI M (fR M 104 7 + 3) (zI M b 0)), .int (rI M (fR M 104 7 + 3) c), .int (rI M (oI M 129 2) av), .int (wt + ((rI M (oI M 129 1) av) * ((rI M (fR M 104 7 + 5) c) / 10)))] M v M' 0 0 := H
  have H : Ev none e 68 132 [some (.ref 104), some (.ref b), some (.int av), some (.int d), some (.int si), some (.int c), some (.int (wt + ((rI M (oI M 129 1) av) * ((rI M (fR M 104 7 + 5) c) / 10))))] [.int ((rI M (fR M 104 7 + 3) c) - (rI M (fR M 104 7 + 3) (zI M b 0))), .int (rI M (oI M 129 2) av), .int (wt + ((rI M (oI M 129 1) av) * ((rI M (fR M 104 7 + 5) c) / 10)))] M v M' 0 0 := Ev.back 1 (fun n => rfl) H
  obtain ⟨e1, rfl⟩ := Ev.dpos rfl rfl H
  have H : Ev none (e1 + 1) 68 139 [some (.ref 104), some (.ref b), some (.int av), some (.int d), some (.int si), some (.int c), some (.int ((wt + ((rI M (oI M 129 1) av) * ((rI M (fR M 104 7 + 5) c) / 10))) + ((rI M (oI M 129 2) av) * (if 0 ≤ ((rI M (fR M 104 7 + 3) c) - (rI M (fR M 104 7 + 3) (zI M b 0))) then ((rI M (fR M 104 7 + 3) c) - (rI M (fR M 104 7 + 3) (zI M b 0))) else 0 - ((rI M (fR M 104 7 + 3) c) - (rI M (fR M 104 7 + 3) (zI M b 0)))))))] [] M v M' 0 0 := Ev.back 4 (fun n => rfl) H
  have HF := H
  exact ⟨b1.1, b2, b3, b4.1, b5, b6, b7, HF⟩
theorem weiw_139 {e : Nat} {M M' : Mem} {v : Option Value} {av d si c wt : Int32} {b : Nat} (hS : SQ M) (a_b : gNth sT b = some 21) (H : Ev none e 68 139 [some (.ref 104), some (.ref b), some (.int av), some (.int d), some (.int si), some (.int c), some (.int wt)] [] M v M' 0 0) : ((zI M 104 8) = 0 ∧ (0 ≤ (3 : Int32).toInt ∧ (3 : Int32).toInt < 7) ∧ (0 ≤ av.toInt ∧ av.toInt < 1536) ∧ (0 ≤ c.toInt ∧ c.toInt < 256) ∧ Ev none e 68 174 [some (.ref 104), some (.ref b), some (.int av), some (.int d), some (.int si), some (.int c), some (.int (wt + ((rI M (oI M 129 3) av) * (rI M (fR M 104 7 + 8) c))))] [] M v M' 0 0) ∨ (¬ ((zI M 104 8) = 0) ∧ Ev none e 68 174 [some (.ref 104), some (.ref b), some (.int av), some (.int d), some (.int si), some (.int c), some (.int (wt + 0))] [] M v M' 0 0) := by
  have H : Ev none e 68 142 [some (.ref 104), some (.ref b), some (.int av), some (.int d), some (.int si), some (.int c), some (.int wt)] [.ref 104, .int wt] M v M' 0 0 := Ev.back 2 (fun n => rfl) H
  have H : Ev none e 68 145 [some (.ref 104), some (.ref b), some (.int av), some (.int d), some (.int si), some (.int c), some (.int wt)] [.int (zI M 104 8), .int wt] M v M' 0 0 := Ev.back 1 (gs_3 rfl rfl (gf_i hS.1 qa_104 qi_22_8 rfl)) H
  have H : Ev none e 68 (if (zI M 104 8) = 0 then 152 else 148) [some (.ref 104), some (.ref b), some (.int av), some (.int d), some (.int si), some (.int c), some (.int wt)] [.int wt] M v M' 0 0 := Ev.back 1 (fun n => rfl) H
  by_cases h1 : (zI M 104 8) = 0
  · rw [if_pos h1] at H
    have H : Ev none e 68 153 [some (.ref 104), some (.ref b), some (.int av), some (.int d), some (.int si), some (.int c), some (.int wt)] [.ref 104, .int wt] M v M' 0 0 := Ev.back 1 (fun n => rfl) H
    have H : Ev none e 68 156 [some (.ref 104), some (.ref b), some (.int av), some (.int d), some (.int si), some (.int c), some (.int wt)] [.ref 129, .int wt] M v M' 0 0 := Ev.back 1 (gs_3 rfl rfl (gf_u hS.1 qa_104 qr_22_5 qu_38 rfl)) H
    have H : Ev none e 68 157 [some (.ref 104), some (.ref b), some (.int av), some (.int d), some (.int si), some (.int c), some (.int wt)] [.int 3, .ref 129, .int wt] M v M' 0 0 := Ev.back 1 (fun n => rfl) H
    obtain ⟨b2, H⟩ := Ev.aal rfl rfl hS.1 qa_129 qz_38 H
    have H : Ev none e 68 158 [some (.ref 104), some (.ref b), some (.int av), some (.int d), some (.int si), some (.int c), some (.int wt)] [.ref (oI M 129 3), .int wt] M v M' 0 0 := H
    have H : Ev none e 68 159 [some (.ref 104), some (.ref b), some (.int av), some (.int d), some (.int si), some (.int c), some (.int wt)] [.int av, .ref (oI M 129 3), .int wt] M v M' 0 0 := Ev.back 1 (fun n => rfl) H
    obtain ⟨b3, H⟩ := Ev.ial rfl rfl hS.1 b2.2 qw_39 H
    have H : Ev none e 68 160 [some (.ref 104), some (.ref b), some (.int av), some (.int d), some (.int si), some (.int c), some (.int wt)] [.int (rI M (oI M 129 3) av), .int wt] M v M' 0 0 := H
    have H : Ev none e 68 161 [some (.ref 104), some (.ref b), some (.int av), some (.int d), some (.int si), some (.int c), some (.int wt)] [.ref 104, .int (rI M (oI M 129 3) av), .int wt] M v M' 0 0 := Ev.back 1 (fun n => rfl) H
    have H : Ev none e 68 164 [some (.ref 104), some (.ref b), some (.int av), some (.int d), some (.int si), some (.int c), some (.int wt)] [.ref (fR M 104 7), .int (rI M (oI M 129 3) av), .int wt] M v M' 0 0 := Ev.back 1 (gs_3 rfl rfl (gf_r hS.1 qa_104 qr_22_7 rfl)) H
    have H : Ev none e 68 167 [some (.ref 104), some (.ref b), some (.int av), some (.int d), some (.int si), some (.int c), some (.int wt)] [.ref (fR M 104 7 + 8), .int (rI M (oI M 129 3) av), .int wt] M v M' 0 0 := Ev.back 1 (gs_3 rfl rfl (gf_x hS.1 (hS.1.fr qa_104 qr_22_7).2 qo_8 (fx_l9 hS (hS.1.fr qa_104 qr_22_7).2) rfl)) H
    have H : Ev none e 68 169 [some (.ref 104), some (.ref b), some (.int av), some (.int d), some (.int si), some (.int c), some (.int wt)] [.int c, .ref (fR M 104 7 + 8), .int (rI M (oI M 129 3) av), .int wt] M v M' 0 0 := Ev.back 1 (fun n => rfl) H
    obtain ⟨b4, H⟩ := Ev.ial rfl rfl hS.1 (fx_h9 (hS.1.fr qa_104 qr_22_7).2) qw_16 H
    have H : Ev none e 68 170 [some (.ref 104), some (.ref b), some (.int av), some (.int d), some (.int si), some (.int c), some (.int wt)] [.int (rI M (fR M 104 7 + 8) c), .int (rI M (oI M 129 3) av), .int wt] M v M' 0 0 := H
    have H : Ev none e 68 174 [some (.ref 104), some (.ref b), some (.int av), some (.int d), some (.int si), some (.int c), some (.int (wt + ((rI M (oI M 129 3) av) * (rI M (fR M 104 7 + 8) c))))] [] M v M' 0 0 := Ev.back 3 (fun n => rfl) H
    have HF := H
    exact Or.inl ⟨h1, b2.1, b3, b4, HF⟩
  · rw [if_neg h1] at H
    have H : Ev none e 68 174 [some (.ref 104), some (.ref b), some (.int av), some (.int d), some (.int si), some (.int c), some (.int (wt + 0))] [] M v M' 0 0 := Ev.back 4 (fun n => rfl) H
    have HF := H
    exact Or.inr (⟨h1, HF⟩)
theorem weiw_174 {e : Nat} {M M' : Mem} {v : Option Value} {av d si c wt : Int32} {b : Nat} (hS : SQ M) (a_b : gNth sT b = some 21) (H : Ev none e 68 174 [some (.ref 104), some (.ref b), some (.int av), some (.int d), some (.int si), some (.int c), some (.int wt)] [] M v M' 0 0) : ((zI M b 4) = (-1) ∧ Ev none e 68 207 [some (.ref 104), some (.ref b), some (.int av), some (.int d), some (.int si), some (.int c), some (.int (wt + 0))] [] M v M' 0 0) ∨ (¬ ((zI M b 4) = (-1)) ∧ (zI M b 4) = d ∧ Ev none e 68 207 [some (.ref 104), some (.ref b), some (.int av), some (.int d), some (.int si), some (.int c), some (.int (wt + 0))] [] M v M' 0 0) ∨ (¬ ((zI M b 4) = (-1)) ∧ ¬ ((zI M b 4) = d) ∧ (0 ≤ (4 : Int32).toInt ∧ (4 : Int32).toInt < 7) ∧ (0 ≤ av.toInt ∧ av.toInt < 1536) ∧ Ev none e 68 207 [some (.ref 104), some (.ref b), some (.int av), some (.int d), some (.int si), some (.int c), some (.int (wt + (rI M (oI M 129 4) av)))] [] M v M' 0 0) := by
  have H : Ev none e 68 177 [some (.ref 104), some (.ref b), some (.int av), some (.int d), some (.int si), some (.int c), some (.int wt)] [.ref b, .int wt] M v M' 0 0 := Ev.back 2 (fun n => rfl) H
  have H : Ev none e 68 180 [some (.ref 104), some (.ref b), some (.int av), some (.int d), some (.int si), some (.int c), some (.int wt)] [.int (zI M b 4), .int wt] M v M' 0 0 := Ev.back 1 (gs_3 rfl rfl (gf_i hS.1 a_b qi_21_4 rfl)) H
  have H : Ev none e 68 (if (zI M b 4) = (-1) then 203 else 184) [some (.ref 104), some (.ref b), some (.int av), some (.int d), some (.int si), some (.int c), some (.int wt)] [.int wt] M v M' 0 0 := Ev.back 2 (fun n => rfl) H
  by_cases h1 : (zI M b 4) = (-1)
  · rw [if_pos h1] at H
    have H : Ev none e 68 207 [some (.ref 104), some (.ref b), some (.int av), some (.int d), some (.int si), some (.int c), some (.int (wt + 0))] [] M v M' 0 0 := Ev.back 3 (fun n => rfl) H
    have HF := H
    exact Or.inl ⟨h1, HF⟩
  · rw [if_neg h1] at H
    have H : Ev none e 68 185 [some (.ref 104), some (.ref b), some (.int av), some (.int d), some (.int si), some (.int c), some (.int wt)] [.ref b, .int wt] M v M' 0 0 := Ev.back 1 (fun n => rfl) H
    have H : Ev none e 68 188 [some (.ref 104), some (.ref b), some (.int av), some (.int d), some (.int si), some (.int c), some (.int wt)] [.int (zI M b 4), .int wt] M v M' 0 0 := Ev.back 1 (gs_3 rfl rfl (gf_i hS.1 a_b qi_21_4 rfl)) H
    have H : Ev none e 68 (if (zI M b 4) = d then 203 else 192) [some (.ref 104), some (.ref b), some (.int av), some (.int d), some (.int si), some (.int c), some (.int wt)] [.int wt] M v M' 0 0 := Ev.back 2 (fun n => rfl) H
    by_cases h2 : (zI M b 4) = d
    · rw [if_pos h2] at H
      have H : Ev none e 68 207 [some (.ref 104), some (.ref b), some (.int av), some (.int d), some (.int si), some (.int c), some (.int (wt + 0))] [] M v M' 0 0 := Ev.back 3 (fun n => rfl) H
      have HF := H
      exact Or.inr (Or.inl ⟨h1, h2, HF⟩)
    · rw [if_neg h2] at H
      have H : Ev none e 68 193 [some (.ref 104), some (.ref b), some (.int av), some (.int d), some (.int si), some (.int c), some (.int wt)] [.ref 104, .int wt] M v M' 0 0 := Ev.back 1 (fun n => rfl) H
      have H : Ev none e 68 196 [some (.ref 104), some (.ref b), some (.int av), some (.int d), some (.int si), some (.int c), some (.int wt)] [.ref 129, .int wt] M v M' 0 0 := Ev.back 1 (gs_3 rfl rfl (gf_u hS.1 qa_104 qr_22_5 qu_38 rfl)) H
      have H : Ev none e 68 197 [some (.ref 104), some (.ref b), some (.int av), some (.int d), some (.int si), some (.int c), some (.int wt)] [.int 4, .ref 129, .int wt] M v M' 0 0 := Ev.back 1 (fun n => rfl) H
      obtain ⟨b3, H⟩ := Ev.aal rfl rfl hS.1 qa_129 qz_38 H
      have H : Ev none e 68 198 [some (.ref 104), some (.ref b), some (.int av), some (.int d), some (.int si), some (.int c), some (.int wt)] [.ref (oI M 129 4), .int wt] M v M' 0 0 := H
      have H : Ev none e 68 199 [some (.ref 104), some (.ref b), some (.int av), some (.int d), some (.int si), some (.int c), some (.int wt)] [.int av, .ref (oI M 129 4), .int wt] M v M' 0 0 := Ev.back 1 (fun n => rfl) H
      obtain ⟨b4, H⟩ := Ev.ial rfl rfl hS.1 b3.2 qw_39 H
      have H : Ev none e 68 200 [some (.ref 104), some (.ref b), some (.int av), some (.int d), some (.int si), some (.int c), some (.int wt)] [.int (rI M (oI M 129 4) av), .int wt] M v M' 0 0 := H
      have H : Ev none e 68 207 [some (.ref 104), some (.ref b), some (.int av), some (.int d), some (.int si), some (.int c), some (.int (wt + (rI M (oI M 129 4) av)))] [] M v M' 0 0 := Ev.back 3 (fun n => rfl) H
      have HF := H
      exact Or.inr (Or.inr (⟨h1, h2, b3.1, b4, HF⟩))
theorem weiw_207 {e : Nat} {M M' : Mem} {v : Option Value} {av d si c wt : Int32} {b : Nat} (hS : SQ M) (a_b : gNth sT b = some 21) (H : Ev none e 68 207 [some (.ref 104), some (.ref b), some (.int av), some (.int d), some (.int si), some (.int c), some (.int wt)] [] M v M' 0 0) : ((zI M b 3) = c ∧ (0 ≤ (5 : Int32).toInt ∧ (5 : Int32).toInt < 7) ∧ (0 ≤ av.toInt ∧ av.toInt < 1536) ∧ Ev none e 68 233 [some (.ref 104), some (.ref b), some (.int av), some (.int d), some (.int si), some (.int c), some (.int (wt + (rI M (oI M 129 5) av)))] [] M v M' 0 0) ∨ (¬ ((zI M b 3) = c) ∧ Ev none e 68 233 [some (.ref 104), some (.ref b), some (.int av), some (.int d), some (.int si), some (.int c), some (.int (wt + 0))] [] M v M' 0 0) := by
  have H : Ev none e 68 210 [some (.ref 104), some (.ref b), some (.int av), some (.int d), some (.int si), some (.int c), some (.int wt)] [.ref b, .int wt] M v M' 0 0 := Ev.back 2 (fun n => rfl) H
  have H : Ev none e 68 213 [some (.ref 104), some (.ref b), some (.int av), some (.int d), some (.int si), some (.int c), some (.int wt)] [.int (zI M b 3), .int wt] M v M' 0 0 := Ev.back 1 (gs_3 rfl rfl (gf_i hS.1 a_b qi_21_3 rfl)) H
  have H : Ev none e 68 (if (zI M b 3) = c then 218 else 229) [some (.ref 104), some (.ref b), some (.int av), some (.int d), some (.int si), some (.int c), some (.int wt)] [.int wt] M v M' 0 0 := Ev.back 2 (fun n => rfl) H
  by_cases h1 : (zI M b 3) = c
  · rw [if_pos h1] at H
    have H : Ev none e 68 219 [some (.ref 104), some (.ref b), some (.int av), some (.int d), some (.int si), some (.int c), some (.int wt)] [.ref 104, .int wt] M v M' 0 0 := Ev.back 1 (fun n => rfl) H
    have H : Ev none e 68 222 [some (.ref 104), some (.ref b), some (.int av), some (.int d), some (.int si), some (.int c), some (.int wt)] [.ref 129, .int wt] M v M' 0 0 := Ev.back 1 (gs_3 rfl rfl (gf_u hS.1 qa_104 qr_22_5 qu_38 rfl)) H
    have H : Ev none e 68 223 [some (.ref 104), some (.ref b), some (.int av), some (.int d), some (.int si), some (.int c), some (.int wt)] [.int 5, .ref 129, .int wt] M v M' 0 0 := Ev.back 1 (fun n => rfl) H
    obtain ⟨b2, H⟩ := Ev.aal rfl rfl hS.1 qa_129 qz_38 H
    have H : Ev none e 68 224 [some (.ref 104), some (.ref b), some (.int av), some (.int d), some (.int si), some (.int c), some (.int wt)] [.ref (oI M 129 5), .int wt] M v M' 0 0 := H
    have H : Ev none e 68 225 [some (.ref 104), some (.ref b), some (.int av), some (.int d), some (.int si), some (.int c), some (.int wt)] [.int av, .ref (oI M 129 5), .int wt] M v M' 0 0 := Ev.back 1 (fun n => rfl) H
    obtain ⟨b3, H⟩ := Ev.ial rfl rfl hS.1 b2.2 qw_39 H
    have H : Ev none e 68 226 [some (.ref 104), some (.ref b), some (.int av), some (.int d), some (.int si), some (.int c), some (.int wt)] [.int (rI M (oI M 129 5) av), .int wt] M v M' 0 0 := H
    have H : Ev none e 68 233 [some (.ref 104), some (.ref b), some (.int av), some (.int d), some (.int si), some (.int c), some (.int (wt + (rI M (oI M 129 5) av)))] [] M v M' 0 0 := Ev.back 3 (fun n => rfl) H
    have HF := H
    exact Or.inl ⟨h1, b2.1, b3, HF⟩
  · rw [if_neg h1] at H
    have H : Ev none e 68 233 [some (.ref 104), some (.ref b), some (.int av), some (.int d), some (.int si), some (.int c), some (.int (wt + 0))] [] M v M' 0 0 := Ev.back 3 (fun n => rfl) H
    have HF := H
    exact Or.inr (⟨h1, HF⟩)
theorem weiw_233 {e : Nat} {M M' : Mem} {v : Option Value} {av d si c wt : Int32} {b : Nat} (hS : SQ M) (a_b : gNth sT b = some 21) (H : Ev none e 68 233 [some (.ref 104), some (.ref b), some (.int av), some (.int d), some (.int si), some (.int c), some (.int wt)] [] M v M' 0 0) : ((rI M (oI M 129 6) av) ≤ 0 ∧ (0 ≤ (6 : Int32).toInt ∧ (6 : Int32).toInt < 7) ∧ (0 ≤ av.toInt ∧ av.toInt < 1536) ∧ Ev none e 68 269 [some (.ref 104), some (.ref b), some (.int av), some (.int d), some (.int si), some (.int c), some (.int wt)] [] M v M' 0 0) ∨ (¬ ((rI M (oI M 129 6) av) ≤ 0) ∧ (0 ≤ (6 : Int32).toInt ∧ (6 : Int32).toInt < 7) ∧ (0 ≤ av.toInt ∧ av.toInt < 1536) ∧ (0 ≤ (6 : Int32).toInt ∧ (6 : Int32).toInt < 7) ∧ (0 ≤ av.toInt ∧ av.toInt < 1536) ∧ (∃ e1 v1 M1, e = e1 + 1 ∧ Ev none e1 69 0 [some (.ref 104), some (.int c), some (.int d), some (.int si), none, none, none] [] M v1 M1 0 0 ∧ Ev none e 68 265 [some (.ref 104), some (.ref b), some (.int av), some (.int d), some (.int si), some (.int c), some (.int wt)] (v1.toList ++ [.int (rI M (oI M 129 6) av), .int wt]) M1 v M' 0 0)) := by
  have H : Ev none e 68 234 [some (.ref 104), some (.ref b), some (.int av), some (.int d), some (.int si), some (.int c), some (.int wt)] [.ref 104] M v M' 0 0 := Ev.back 1 (fun n => rfl) H
  have H : Ev none e 68 237 [some (.ref 104), some (.ref b), some (.int av), some (.int d), some (.int si), some (.int c), some (.int wt)] [.ref 129] M v M' 0 0 := Ev.back 1 (gs_3 rfl rfl (gf_u hS.1 qa_104 qr_22_5 qu_38 rfl)) H
  have H : Ev none e 68 239 [some (.ref 104), some (.ref b), some (.int av), some (.int d), some (.int si), some (.int c), some (.int wt)] [.int 6, .ref 129] M v M' 0 0 := Ev.back 1 (fun n => rfl) H
  obtain ⟨b1, H⟩ := Ev.aal rfl rfl hS.1 qa_129 qz_38 H
  have H : Ev none e 68 240 [some (.ref 104), some (.ref b), some (.int av), some (.int d), some (.int si), some (.int c), some (.int wt)] [.ref (oI M 129 6)] M v M' 0 0 := H
  have H : Ev none e 68 241 [some (.ref 104), some (.ref b), some (.int av), some (.int d), some (.int si), some (.int c), some (.int wt)] [.int av, .ref (oI M 129 6)] M v M' 0 0 := Ev.back 1 (fun n => rfl) H
  obtain ⟨b2, H⟩ := Ev.ial rfl rfl hS.1 b1.2 qw_39 H
  have H : Ev none e 68 242 [some (.ref 104), some (.ref b), some (.int av), some (.int d), some (.int si), some (.int c), some (.int wt)] [.int (rI M (oI M 129 6) av)] M v M' 0 0 := H
  have H : Ev none e 68 (if (rI M (oI M 129 6) av) ≤ 0 then 269 else 245) [some (.ref 104), some (.ref b), some (.int av), some (.int d), some (.int si), some (.int c), some (.int wt)] [] M v M' 0 0 := Ev.back 1 (fun n => rfl) H
  by_cases h3 : (rI M (oI M 129 6) av) ≤ 0
  · rw [if_pos h3] at H
    have HF := H
    exact Or.inl ⟨h3, b1.1, b2, HF⟩
  · rw [if_neg h3] at H
    have H : Ev none e 68 248 [some (.ref 104), some (.ref b), some (.int av), some (.int d), some (.int si), some (.int c), some (.int wt)] [.ref 104, .int wt] M v M' 0 0 := Ev.back 2 (fun n => rfl) H
    have H : Ev none e 68 251 [some (.ref 104), some (.ref b), some (.int av), some (.int d), some (.int si), some (.int c), some (.int wt)] [.ref 129, .int wt] M v M' 0 0 := Ev.back 1 (gs_3 rfl rfl (gf_u hS.1 qa_104 qr_22_5 qu_38 rfl)) H
    have H : Ev none e 68 253 [some (.ref 104), some (.ref b), some (.int av), some (.int d), some (.int si), some (.int c), some (.int wt)] [.int 6, .ref 129, .int wt] M v M' 0 0 := Ev.back 1 (fun n => rfl) H
    obtain ⟨b4, H⟩ := Ev.aal rfl rfl hS.1 qa_129 qz_38 H
    have H : Ev none e 68 254 [some (.ref 104), some (.ref b), some (.int av), some (.int d), some (.int si), some (.int c), some (.int wt)] [.ref (oI M 129 6), .int wt] M v M' 0 0 := H
    have H : Ev none e 68 255 [some (.ref 104), some (.ref b), some (.int av), some (.int d), some (.int si), some (.int c), some (.int wt)] [.int av, .ref (oI M 129 6), .int wt] M v M' 0 0 := Ev.back 1 (fun n => rfl) H
    obtain ⟨b5, H⟩ := Ev.ial rfl rfl hS.1 b4.2 qw_39 H
    have H : Ev none e 68 256 [some (.ref 104), some (.ref b), some (.int av), some (.int d), some (.int si), some (.int c), some (.int wt)] [.int (rI M (oI M 129 6) av), .int wt] M v M' 0 0 := H
    have H : Ev none e 68 262 [some (.ref 104), some (.ref b), some (.int av), some (.int d), some (.int si), some (.int c), some (.int wt)] [.int si, .int d, .int c, .ref 104, .int (rI M (oI M 129 6) av), .int wt] M v M' 0 0 := Ev.back 4 (fun n => rfl) H
    obtain ⟨e1, rfl⟩ := Ev.dpos rfl rfl H
    obtain ⟨vK6, MK6, K6, H⟩ := Ev.callb (fun n_ => gs_7 rfl rfl (show gCal (.invokevirtual 258) 7 (.int si :: .int d :: .int c :: .ref 104 :: [.int (rI M (oI M 129 6) av), .int wt]) M = some (.inr (69, [some (.ref 104), some (.int c), some (.int d), some (.int si), none, none, none], [.int (rI M (oI M 129 6) av), .int wt])) from by show @cond (Option ((List Value × Mem) ⊕ (Nat × Lo × List Value))) (true && gRecv M (.ref 104) 7 && gRoom [.int (rI M (oI M 129 6) av), .int wt] && true) (some (.inr (69, [some (.ref 104), some (.int c), some (.int d), some (.int si), none, none, none], [.int (rI M (oI M 129 6) av), .int wt]))) none = _; rw [recv_s hS.1 qa_104 qo_22]; rfl)) H
    have K6 : Ev none e1 69 0 [some (.ref 104), some (.int c), some (.int d), some (.int si), none, none, none] [] M vK6 MK6 0 0 := K6
    have HF := H
    exact Or.inr (⟨h3, b1.1, b2, b4.1, b5, ⟨e1, vK6, MK6, rfl, K6, HF⟩⟩)
theorem weiw_265 {e : Nat} {M M' : Mem} {v : Option Value} {av d si c wt y s0 w0 : Int32} {b : Nat} (hS : SQ M) (a_b : gNth sT b = some 21) (H : Ev none e 68 265 [some (.ref 104), some (.ref b), some (.int av), some (.int d), some (.int si), some (.int c), some (.int wt)] [.int y, .int s0, .int w0] M v M' 0 0) : v = some (.int (w0 - (s0 * y))) ∧ M' = M := by
  have H : Ev none e 68 271 [some (.ref 104), some (.ref b), some (.int av), some (.int d), some (.int si), some (.int c), some (.int (w0 - (s0 * y)))] [.int (w0 - (s0 * y))] M v M' 0 0 := Ev.back 4 (fun n => rfl) H
  obtain ⟨z1, z2⟩ := Ev.retz rfl rfl H
  exact ⟨z1, z2⟩
theorem weiw_269 {e : Nat} {M M' : Mem} {v : Option Value} {av d si c wt : Int32} {b : Nat} (hS : SQ M) (a_b : gNth sT b = some 21) (H : Ev none e 68 269 [some (.ref 104), some (.ref b), some (.int av), some (.int d), some (.int si), some (.int c), some (.int wt)] [] M v M' 0 0) : v = some (.int wt) ∧ M' = M := by
  have H : Ev none e 68 271 [some (.ref 104), some (.ref b), some (.int av), some (.int d), some (.int si), some (.int c), some (.int wt)] [.int wt] M v M' 0 0 := Ev.back 1 (fun n => rfl) H
  obtain ⟨z1, z2⟩ := Ev.retz rfl rfl H
  exact ⟨z1, z2⟩
theorem chow_0 {e : Nat} {M M' : Mem} {v : Option Value} {go ha : Int32} {b : Nat} (hS : SQ M) (a_b : gNth sT b = some 21) (H : Ev none e 66 0 [some (.ref 104), some (.ref b), some (.int go), some (.int ha), none, none, none, none, none, none] [] M v M' 0 0) : (∃ e1 v1 M1, e = e1 + 1 ∧ Ev none e1 3 0 [some (.ref 105), some (.int (zI M b 0)), some (.int go), none] [] M v1 M1 0 0 ∧ Ev none e 66 12 [some (.ref 104), some (.ref b), some (.int go), some (.int ha), none, none, none, none, none, none] (v1.toList ++ []) M1 v M' 0 0) := by
  have H : Ev none e 66 1 [some (.ref 104), some (.ref b), some (.int go), some (.int ha), none, none, none, none, none, none] [.ref 104] M v M' 0 0 := Ev.back 1 (fun n => rfl) H
  have H : Ev none e 66 4 [some (.ref 104), some (.ref b), some (.int go), some (.int ha), none, none, none, none, none, none] [.ref 105] M v M' 0 0 := Ev.back 1 (gs_3 rfl rfl (gf_u hS.1 qa_104 qr_22_0 qu_23 rfl)) H
  have H : Ev none e 66 5 [some (.ref 104), some (.ref b), some (.int go), some (.int ha), none, none, none, none, none, none] [.ref b, .ref 105] M v M' 0 0 := Ev.back 1 (fun n => rfl) H
  have H : Ev none e 66 8 [some (.ref 104), some (.ref b), some (.int go), some (.int ha), none, none, none, none, none, none] [.int (zI M b 0), .ref 105] M v M' 0 0 := Ev.back 1 (gs_3 rfl rfl (gf_i hS.1 a_b qi_21_0 rfl)) H
  have H : Ev none e 66 9 [some (.ref 104), some (.ref b), some (.int go), some (.int ha), none, none, none, none, none, none] [.int go, .int (zI M b 0), .ref 105] M v M' 0 0 := Ev.back 1 (fun n => rfl) H
  obtain ⟨e1, rfl⟩ := Ev.dpos rfl rfl H
  obtain ⟨vK1, MK1, K1, H⟩ := Ev.callb (fun n_ => gs_7 rfl rfl (show gCal (.invokevirtual 222) 7 (.int go :: .int (zI M b 0) :: .ref 105 :: []) M = some (.inr (3, [some (.ref 105), some (.int (zI M b 0)), some (.int go), none], [])) from by show @cond (Option ((List Value × Mem) ⊕ (Nat × Lo × List Value))) (true && gRecv M (.ref 105) 0 && gRoom [] && true) (some (.inr (3, [some (.ref 105), some (.int (zI M b 0)), some (.int go), none], []))) none = _; rw [recv_s hS.1 qa_105 qo_23]; rfl)) H
  have K1 : Ev none e1 3 0 [some (.ref 105), some (.int (zI M b 0)), some (.int go), none] [] M vK1 MK1 0 0 := K1
  have HF := H
  exact ⟨e1, vK1, MK1, rfl, K1, HF⟩
theorem chow_12 {e : Nat} {M M' : Mem} {v : Option Value} {go ha y : Int32} {b : Nat} (hS : SQ M) (a_b : gNth sT b = some 21) (H : Ev none e 66 12 [some (.ref 104), some (.ref b), some (.int go), some (.int ha), none, none, none, none, none, none] [.int y] M v M' 0 0) : (y = (-1) ∧ Ev none e 66 29 [some (.ref 104), some (.ref b), some (.int go), some (.int ha), some (.int y), some (.int 0), some (.int 0), none, none, none] [] M v M' 0 0) ∨ (¬ (y = (-1)) ∧ v = some (.int y) ∧ M' = M) := by
  have H : Ev none e 66 (if y = (-1) then 23 else 20) [some (.ref 104), some (.ref b), some (.int go), some (.int ha), some (.int y), none, none, none, none, none] [] M v M' 0 0 := Ev.back 4 (fun n => rfl) H
  by_cases h1 : y = (-1)
  · rw [if_pos h1] at H
    have H : Ev none e 66 29 [some (.ref 104), some (.ref b), some (.int go), some (.int ha), some (.int y), some (.int 0), some (.int 0), none, none, none] [] M v M' 0 0 := Ev.back 4 (fun n => rfl) H
    have HF := H
    exact Or.inl ⟨h1, HF⟩
  · rw [if_neg h1] at H
    have H : Ev none e 66 22 [some (.ref 104), some (.ref b), some (.int go), some (.int ha), some (.int y), none, none, none, none, none] [.int y] M v M' 0 0 := Ev.back 1 (fun n => rfl) H
    obtain ⟨z1, z2⟩ := Ev.retz rfl rfl H
    exact Or.inr (⟨h1, z1, z2⟩)
theorem chow_29 {e : Nat} {M M' : Mem} {v : Option Value} {go ha be le d : Int32} {b : Nat} {c7 c8 c9 : Option Value} (hS : SQ M) (a_b : gNth sT b = some 21) (H : Ev none e 66 29 [some (.ref 104), some (.ref b), some (.int go), some (.int ha), some (.int be), some (.int le), some (.int d), c7, c8, c9] [] M v M' 0 0) : (8 ≤ d ∧ v = some (.int be) ∧ M' = M) ∨ (¬ (8 ≤ d) ∧ (rI M 108 ((8 * (zI M b 0)) + d)) = (-1) ∧ (0 ≤ ((8 * (zI M b 0)) + d).toInt ∧ ((8 * (zI M b 0)) + d).toInt < 2048) ∧ Ev none e 66 29 [some (.ref 104), some (.ref b), some (.int go), some (.int ha), some (.int be), some (.int le), some (.int (d + 1)), some (.int (rI M 108 ((8 * (zI M b 0)) + d))), c8, c9] [] M v M' 0 0) ∨ (¬ (8 ≤ d) ∧ ¬ ((rI M 108 ((8 * (zI M b 0)) + d)) = (-1)) ∧ (G_7 M (fR M 104 7) (rI M 108 ((8 * (zI M b 0)) + d))) = 0 ∧ (0 ≤ ((8 * (zI M b 0)) + d).toInt ∧ ((8 * (zI M b 0)) + d).toInt < 2048) ∧ Ev none e 66 29 [some (.ref 104), some (.ref b), some (.int go), some (.int ha), some (.int be), some (.int le), some (.int (d + 1)), some (.int (rI M 108 ((8 * (zI M b 0)) + d))), c8, c9] [] M v M' 0 0) ∨ (¬ (8 ≤ d) ∧ ¬ ((rI M 108 ((8 * (zI M b 0)) + d)) = (-1)) ∧ ¬ ((G_7 M (fR M 104 7) (rI M 108 ((8 * (zI M b 0)) + d))) = 0) ∧ (rI M 128 ((256 * ha) + (rI M 108 ((8 * (zI M b 0)) + d)))) = (-1) ∧ (0 ≤ ((8 * (zI M b 0)) + d).toInt ∧ ((8 * (zI M b 0)) + d).toInt < 2048) ∧ (0 ≤ ((256 * ha) + (rI M 108 ((8 * (zI M b 0)) + d))).toInt ∧ ((256 * ha) + (rI M 108 ((8 * (zI M b 0)) + d))).toInt < 1536) ∧ (0 ≤ ha.toInt ∧ ha.toInt < 6) ∧ (∃ e1 v1 M1, e = e1 + 1 ∧ Ev none e1 67 0 [some (.ref 104), some (.ref (oI M 109 ha)), some (.int ((256 * ha) + (rI M 108 ((8 * (zI M b 0)) + d)))), some (.int (rI M 108 ((8 * (zI M b 0)) + d))), none, none] [] M v1 M1 0 0 ∧ Ev none e 66 112 [some (.ref 104), some (.ref b), some (.int go), some (.int ha), some (.int be), some (.int le), some (.int d), some (.int (rI M 108 ((8 * (zI M b 0)) + d))), some (.int ((256 * ha) + (rI M 108 ((8 * (zI M b 0)) + d)))), c9] (v1.toList ++ []) M1 v M' 0 0)) ∨ (¬ (8 ≤ d) ∧ ¬ ((rI M 108 ((8 * (zI M b 0)) + d)) = (-1)) ∧ ¬ ((G_7 M (fR M 104 7) (rI M 108 ((8 * (zI M b 0)) + d))) = 0) ∧ ¬ ((rI M 128 ((256 * ha) + (rI M 108 ((8 * (zI M b 0)) + d)))) = (-1)) ∧ (0 ≤ ((8 * (zI M b 0)) + d).toInt ∧ ((8 * (zI M b 0)) + d).toInt < 2048) ∧ (0 ≤ ((256 * ha) + (rI M 108 ((8 * (zI M b 0)) + d))).toInt ∧ ((256 * ha) + (rI M 108 ((8 * (zI M b 0)) + d))).toInt < 1536) ∧ Ev none e 66 112 [some (.ref 104), some (.ref b), some (.int go), some (.int ha), some (.int be), some (.int le), some (.int d), some (.int (rI M 108 ((8 * (zI M b 0)) + d))), some (.int ((256 * ha) + (rI M 108 ((8 * (zI M b 0)) + d)))), c9] [] M v M' 0 0) := by
  have H : Ev none e 66 (if 8 ≤ d then 184 else 36) [some (.ref 104), some (.ref b), some (.int go), some (.int ha), some (.int be), some (.int le), some (.int d), c7, c8, c9] [] M v M' 0 0 := Ev.back 3 (fun n => rfl) H
  by_cases h1 : 8 ≤ d
  · rw [if_pos h1] at H
    have H : Ev none e 66 186 [some (.ref 104), some (.ref b), some (.int go), some (.int ha), some (.int be), some (.int le), some (.int d), c7, c8, c9] [.int be] M v M' 0 0 := Ev.back 1 (fun n => rfl) H
    obtain ⟨z1, z2⟩ := Ev.retz rfl rfl H
    exact Or.inl ⟨h1, z1, z2⟩
  · rw [if_neg h1] at H
    have H : Ev none e 66 37 [some (.ref 104), some (.ref b), some (.int go), some (.int ha), some (.int be), some (.int le), some (.int d), c7, c8, c9] [.ref 104] M v M' 0 0 := Ev.back 1 (fun n => rfl) H
    have H : Ev none e 66 40 [some (.ref 104), some (.ref b), some (.int go), some (.int ha), some (.int be), some (.int le), some (.int d), c7, c8, c9] [.ref 105] M v M' 0 0 := Ev.back 1 (gs_3 rfl rfl (gf_u hS.1 qa_104 qr_22_0 qu_23 rfl)) H
    have H : Ev none e 66 43 [some (.ref 104), some (.ref b), some (.int go), some (.int ha), some (.int be), some (.int le), some (.int d), c7, c8, c9] [.ref 108] M v M' 0 0 := Ev.back 1 (gs_3 rfl rfl (gf_u hS.1 qa_105 qr_23_2 qu_26 rfl)) H
    have H : Ev none e 66 46 [some (.ref 104), some (.ref b), some (.int go), some (.int ha), some (.int be), some (.int le), some (.int d), c7, c8, c9] [.ref b, .int 8, .ref 108] M v M' 0 0 := Ev.back 2 (fun n => rfl) H
    have H : Ev none e 66 49 [some (.ref 104), some (.ref b), some (.int go), some (.int ha), some (.int be), some (.int le), some (.int d), c7, c8, c9] [.int (zI M b 0), .int 8, .ref 108] M v M' 0 0 := Ev.back 1 (gs_3 rfl rfl (gf_i hS.1 a_b qi_21_0 rfl)) H
    have H : Ev none e 66 53 [some (.ref 104), some (.ref b), some (.int go), some (.int ha), some (.int be), some (.int le), some (.int d), c7, c8, c9] [.int ((8 * (zI M b 0)) + d), .ref 108] M v M' 0 0 := Ev.back 3 (fun n => rfl) H
    obtain ⟨b2, H⟩ := Ev.ial rfl rfl hS.1 qa_108 qw_26 H
    have H : Ev none e 66 54 [some (.ref 104), some (.ref b), some (.int go), some (.int ha), some (.int be), some (.int le), some (.int d), c7, c8, c9] [.int (rI M 108 ((8 * (zI M b 0)) + d))] M v M' 0 0 := H
    have H : Ev none e 66 (if (rI M 108 ((8 * (zI M b 0)) + d)) = (-1) then 178 else 62) [some (.ref 104), some (.ref b), some (.int go), some (.int ha), some (.int be), some (.int le), some (.int d), some (.int (rI M 108 ((8 * (zI M b 0)) + d))), c8, c9] [] M v M' 0 0 := Ev.back 4 (fun n => rfl) H
    by_cases h3 : (rI M 108 ((8 * (zI M b 0)) + d)) = (-1)
    · rw [if_pos h3] at H
      have H : Ev none e 66 29 [some (.ref 104), some (.ref b), some (.int go), some (.int ha), some (.int be), some (.int le), some (.int (d + 1)), some (.int (rI M 108 ((8 * (zI M b 0)) + d))), c8, c9] [] M v M' 0 0 := Ev.back 2 (fun n => rfl) H
      have HF := H
      exact Or.inr (Or.inl ⟨h1, h3, b2, HF⟩)
    · rw [if_neg h3] at H
      have H : Ev none e 66 63 [some (.ref 104), some (.ref b), some (.int go), some (.int ha), some (.int be), some (.int le), some (.int d), some (.int (rI M 108 ((8 * (zI M b 0)) + d))), c8, c9] [.ref 104] M v M' 0 0 := Ev.back 1 (fun n => rfl) H
      have H : Ev none e 66 66 [some (.ref 104), some (.ref b), some (.int go), some (.int ha), some (.int be), some (.int le), some (.int d), some (.int (rI M 108 ((8 * (zI M b 0)) + d))), c8, c9] [.ref (fR M 104 7)] M v M' 0 0 := Ev.back 1 (gs_3 rfl rfl (gf_r hS.1 qa_104 qr_22_7 rfl)) H
      have H : Ev none e 66 68 [some (.ref 104), some (.ref b), some (.int go), some (.int ha), some (.int be), some (.int le), some (.int d), some (.int (rI M 108 ((8 * (zI M b 0)) + d))), c8, c9] [.int (rI M 108 ((8 * (zI M b 0)) + d)), .ref (fR M 104 7)] M v M' 0 0 := Ev.back 1 (fun n => rfl) H
      obtain ⟨e1, rfl⟩ := Ev.dpos rfl rfl H
      obtain ⟨vK4, MK4, K4, H⟩ := Ev.callb (fun n_ => gs_7 rfl rfl (show gCal (.invokevirtual 225) 7 (.int (rI M 108 ((8 * (zI M b 0)) + d)) :: .ref (fR M 104 7) :: []) M = some (.inr (7, [some (.ref (fR M 104 7)), some (.int (rI M 108 ((8 * (zI M b 0)) + d)))], [])) from by show @cond (Option ((List Value × Mem) ⊕ (Nat × Lo × List Value))) (true && gRecv M (.ref (fR M 104 7)) 1 && gRoom [] && true) (some (.inr (7, [some (.ref (fR M 104 7)), some (.int (rI M 108 ((8 * (zI M b 0)) + d)))], []))) none = _; rw [recv_s hS.1 (hS.1.fr qa_104 qr_22_7).2 qo_8]; rfl)) H
      obtain ⟨pK4, qK4⟩ := g_7 hS (hS.1.fr qa_104 qr_22_7).2 K4
      rw [pK4, qK4] at H
      have H : Ev none (e1 + 1) 66 71 [some (.ref 104), some (.ref b), some (.int go), some (.int ha), some (.int be), some (.int le), some (.int d), some (.int (rI M 108 ((8 * (zI M b 0)) + d))), c8, c9] [.int (G_7 M (fR M 104 7) (rI M 108 ((8 * (zI M b 0)) + d)))] M v M' 0 0 := H
      have H : Ev none (e1 + 1) 66 (if (G_7 M (fR M 104 7) (rI M 108 ((8 * (zI M b 0)) + d))) = 0 then 74 else 77) [some (.ref 104), some (.ref b), some (.int go), some (.int ha), some (.int be), some (.int le), some (.int d), some (.int (rI M 108 ((8 * (zI M b 0)) + d))), c8, c9] [] M v M' 0 0 := Ev.back 1 (fun n => rfl) H
      by_cases h5 : (G_7 M (fR M 104 7) (rI M 108 ((8 * (zI M b 0)) + d))) = 0
      · rw [if_pos h5] at H
        have H : Ev none (e1 + 1) 66 29 [some (.ref 104), some (.ref b), some (.int go), some (.int ha), some (.int be), some (.int le), some (.int (d + 1)), some (.int (rI M 108 ((8 * (zI M b 0)) + d))), c8, c9] [] M v M' 0 0 := Ev.back 3 (fun n => rfl) H
        have HF := H
        exact Or.inr (Or.inr (Or.inl ⟨h1, h3, h5, b2, HF⟩))
      · rw [if_neg h5] at H
        have H : Ev none (e1 + 1) 66 88 [some (.ref 104), some (.ref b), some (.int go), some (.int ha), some (.int be), some (.int le), some (.int d), some (.int (rI M 108 ((8 * (zI M b 0)) + d))), some (.int ((256 * ha) + (rI M 108 ((8 * (zI M b 0)) + d)))), c9] [.ref 104] M v M' 0 0 := Ev.back 7 (fun n => rfl) H
        have H : Ev none (e1 + 1) 66 91 [some (.ref 104), some (.ref b), some (.int go), some (.int ha), some (.int be), some (.int le), some (.int d), some (.int (rI M 108 ((8 * (zI M b 0)) + d))), some (.int ((256 * ha) + (rI M 108 ((8 * (zI M b 0)) + d)))), c9] [.ref 128] M v M' 0 0 := Ev.back 1 (gs_3 rfl rfl (gf_u hS.1 qa_104 qr_22_4 qu_37 rfl)) H
        have H : Ev none (e1 + 1) 66 93 [some (.ref 104), some (.ref b), some (.int go), some (.int ha), some (.int be), some (.int le), some (.int d), some (.int (rI M 108 ((8 * (zI M b 0)) + d))), some (.int ((256 * ha) + (rI M 108 ((8 * (zI M b 0)) + d)))), c9] [.int ((256 * ha) + (rI M 108 ((8 * (zI M b 0)) + d))), .ref 128] M v M' 0 0 := Ev.back 1 (fun n => rfl) H
        obtain ⟨b6, H⟩ := Ev.ial rfl rfl hS.1 qa_128 qw_37 H
        have H : Ev none (e1 + 1) 66 94 [some (.ref 104), some (.ref b), some (.int go), some (.int ha), some (.int be), some (.int le), some (.int d), some (.int (rI M 108 ((8 * (zI M b 0)) + d))), some (.int ((256 * ha) + (rI M 108 ((8 * (zI M b 0)) + d)))), c9] [.int (rI M 128 ((256 * ha) + (rI M 108 ((8 * (zI M b 0)) + d))))] M v M' 0 0 := H
        have H : Ev none (e1 + 1) 66 (if (rI M 128 ((256 * ha) + (rI M 108 ((8 * (zI M b 0)) + d)))) = (-1) then 98 else 112) [some (.ref 104), some (.ref b), some (.int go), some (.int ha), some (.int be), some (.int le), some (.int d), some (.int (rI M 108 ((8 * (zI M b 0)) + d))), some (.int ((256 * ha) + (rI M 108 ((8 * (zI M b 0)) + d)))), c9] [] M v M' 0 0 := Ev.back 2 (fun n => rfl) H
        by_cases h7 : (rI M 128 ((256 * ha) + (rI M 108 ((8 * (zI M b 0)) + d)))) = (-1)
        · rw [if_pos h7] at H
          have H : Ev none (e1 + 1) 66 100 [some (.ref 104), some (.ref b), some (.int go), some (.int ha), some (.int be), some (.int le), some (.int d), some (.int (rI M 108 ((8 * (zI M b 0)) + d))), some (.int ((256 * ha) + (rI M 108 ((8 * (zI M b 0)) + d)))), c9] [.ref 104, .ref 104] M v M' 0 0 := Ev.back 2 (fun n => rfl) H
          have H : Ev none (e1 + 1) 66 103 [some (.ref 104), some (.ref b), some (.int go), some (.int ha), some (.int be), some (.int le), some (.int d), some (.int (rI M 108 ((8 * (zI M b 0)) + d))), some (.int ((256 * ha) + (rI M 108 ((8 * (zI M b 0)) + d)))), c9] [.ref 109, .ref 104] M v M' 0 0 := Ev.back 1 (gs_3 rfl rfl (gf_u hS.1 qa_104 qr_22_1 qu_27 rfl)) H
          have H : Ev none (e1 + 1) 66 104 [some (.ref 104), some (.ref b), some (.int go), some (.int ha), some (.int be), some (.int le), some (.int d), some (.int (rI M 108 ((8 * (zI M b 0)) + d))), some (.int ((256 * ha) + (rI M 108 ((8 * (zI M b 0)) + d)))), c9] [.int ha, .ref 109, .ref 104] M v M' 0 0 := Ev.back 1 (fun n => rfl) H
          obtain ⟨b8, H⟩ := Ev.aal rfl rfl hS.1 qa_109 qz_27 H
          have H : Ev none (e1 + 1) 66 105 [some (.ref 104), some (.ref b), some (.int go), some (.int ha), some (.int be), some (.int le), some (.int d), some (.int (rI M 108 ((8 * (zI M b 0)) + d))), some (.int ((256 * ha) + (rI M 108 ((8 * (zI M b 0)) + d)))), c9] [.ref (oI M 109 ha), .ref 104] M v M' 0 0 := H
          have H : Ev none (e1 + 1) 66 109 [some (.ref 104), some (.ref b), some (.int go), some (.int ha), some (.int be), some (.int le), some (.int d), some (.int (rI M 108 ((8 * (zI M b 0)) + d))), some (.int ((256 * ha) + (rI M 108 ((8 * (zI M b 0)) + d)))), c9] [.int (rI M 108 ((8 * (zI M b 0)) + d)), .int ((256 * ha) + (rI M 108 ((8 * (zI M b 0)) + d))), .ref (oI M 109 ha), .ref 104] M v M' 0 0 := Ev.back 2 (fun n => rfl) H
          obtain ⟨vK9, MK9, K9, H⟩ := Ev.callb (fun n_ => gs_7 rfl rfl (show gCal (.invokevirtual 228) 7 (.int (rI M 108 ((8 * (zI M b 0)) + d)) :: .int ((256 * ha) + (rI M 108 ((8 * (zI M b 0)) + d))) :: .ref (oI M 109 ha) :: .ref 104 :: []) M = some (.inr (67, [some (.ref 104), some (.ref (oI M 109 ha)), some (.int ((256 * ha) + (rI M 108 ((8 * (zI M b 0)) + d)))), some (.int (rI M 108 ((8 * (zI M b 0)) + d))), none, none], [])) from by show @cond (Option ((List Value × Mem) ⊕ (Nat × Lo × List Value))) (true && gRecv M (.ref 104) 7 && gRoom [] && true) (some (.inr (67, [some (.ref 104), some (.ref (oI M 109 ha)), some (.int ((256 * ha) + (rI M 108 ((8 * (zI M b 0)) + d)))), some (.int (rI M 108 ((8 * (zI M b 0)) + d))), none, none], []))) none = _; rw [recv_s hS.1 qa_104 qo_22]; rfl)) H
          have K9 : Ev none e1 67 0 [some (.ref 104), some (.ref (oI M 109 ha)), some (.int ((256 * ha) + (rI M 108 ((8 * (zI M b 0)) + d)))), some (.int (rI M 108 ((8 * (zI M b 0)) + d))), none, none] [] M vK9 MK9 0 0 := K9
          have HF := H
          exact Or.inr (Or.inr (Or.inr (Or.inl ⟨h1, h3, h5, h7, b2, b6, b8.1, ⟨e1, vK9, MK9, rfl, K9, HF⟩⟩)))
        · rw [if_neg h7] at H
          have HF := H
          exact Or.inr (Or.inr (Or.inr (Or.inr (⟨h1, h3, h5, h7, b2, b6, HF⟩))))
theorem chow_112 {e : Nat} {M M' : Mem} {v : Option Value} {go ha be le d c av : Int32} {b : Nat} {c9 : Option Value} (hS : SQ M) (a_b : gNth sT b = some 21) (H : Ev none e 66 112 [some (.ref 104), some (.ref b), some (.int go), some (.int ha), some (.int be), some (.int le), some (.int d), some (.int c), some (.int av), c9] [] M v M' 0 0) : ((rI M 128 av) = 1 ∧ (0 ≤ av.toInt ∧ av.toInt < 1536) ∧ Ev none e 66 29 [some (.ref 104), some (.ref b), some (.int go), some (.int ha), some (.int be), some (.int le), some (.int (d + 1)), some (.int c), some (.int av), c9] [] M v M' 0 0) ∨ (¬ ((rI M 128 av) = 1) ∧ (0 ≤ av.toInt ∧ av.toInt < 1536) ∧ (0 ≤ ha.toInt ∧ ha.toInt < 6) ∧ (∃ e1 v1 M1, e = e1 + 1 ∧ Ev none e1 68 0 [some (.ref 104), some (.ref b), some (.int av), some (.int d), some (.int (zI M (oI M 109 ha) 13)), none, none] [] M v1 M1 0 0 ∧ Ev none e 66 154 [some (.ref 104), some (.ref b), some (.int go), some (.int ha), some (.int be), some (.int le), some (.int d), some (.int c), some (.int av), c9] (v1.toList ++ [.int (G_4 M c go)]) M1 v M' 0 0)) := by
  have H : Ev none e 66 113 [some (.ref 104), some (.ref b), some (.int go), some (.int ha), some (.int be), some (.int le), some (.int d), some (.int c), some (.int av), c9] [.ref 104] M v M' 0 0 := Ev.back 1 (fun n => rfl) H
  have H : Ev none e 66 116 [some (.ref 104), some (.ref b), some (.int go), some (.int ha), some (.int be), some (.int le), some (.int d), some (.int c), some (.int av), c9] [.ref 128] M v M' 0 0 := Ev.back 1 (gs_3 rfl rfl (gf_u hS.1 qa_104 qr_22_4 qu_37 rfl)) H
  have H : Ev none e 66 118 [some (.ref 104), some (.ref b), some (.int go), some (.int ha), some (.int be), some (.int le), some (.int d), some (.int c), some (.int av), c9] [.int av, .ref 128] M v M' 0 0 := Ev.back 1 (fun n => rfl) H
  obtain ⟨b1, H⟩ := Ev.ial rfl rfl hS.1 qa_128 qw_37 H
  have H : Ev none e 66 119 [some (.ref 104), some (.ref b), some (.int go), some (.int ha), some (.int be), some (.int le), some (.int d), some (.int c), some (.int av), c9] [.int (rI M 128 av)] M v M' 0 0 := H
  have H : Ev none e 66 (if (rI M 128 av) = 1 then 123 else 126) [some (.ref 104), some (.ref b), some (.int go), some (.int ha), some (.int be), some (.int le), some (.int d), some (.int c), some (.int av), c9] [] M v M' 0 0 := Ev.back 2 (fun n => rfl) H
  by_cases h2 : (rI M 128 av) = 1
  · rw [if_pos h2] at H
    have H : Ev none e 66 29 [some (.ref 104), some (.ref b), some (.int go), some (.int ha), some (.int be), some (.int le), some (.int (d + 1)), some (.int c), some (.int av), c9] [] M v M' 0 0 := Ev.back 3 (fun n => rfl) H
    have HF := H
    exact Or.inl ⟨h2, b1, HF⟩
  · rw [if_neg h2] at H
    have H : Ev none e 66 127 [some (.ref 104), some (.ref b), some (.int go), some (.int ha), some (.int be), some (.int le), some (.int d), some (.int c), some (.int av), c9] [.ref 104] M v M' 0 0 := Ev.back 1 (fun n => rfl) H
    have H : Ev none e 66 130 [some (.ref 104), some (.ref b), some (.int go), some (.int ha), some (.int be), some (.int le), some (.int d), some (.int c), some (.int av), c9] [.ref 105] M v M' 0 0 := Ev.back 1 (gs_3 rfl rfl (gf_u hS.1 qa_104 qr_22_0 qu_23 rfl)) H
    have H : Ev none e 66 133 [some (.ref 104), some (.ref b), some (.int go), some (.int ha), some (.int be), some (.int le), some (.int d), some (.int c), some (.int av), c9] [.int go, .int c, .ref 105] M v M' 0 0 := Ev.back 2 (fun n => rfl) H
    obtain ⟨e1, rfl⟩ := Ev.dpos rfl rfl H
    obtain ⟨vK3, MK3, K3, H⟩ := Ev.callb (fun n_ => gs_7 rfl rfl (show gCal (.invokevirtual 232) 7 (.int go :: .int c :: .ref 105 :: []) M = some (.inr (4, [some (.ref 105), some (.int c), some (.int go), none, none], [])) from by show @cond (Option ((List Value × Mem) ⊕ (Nat × Lo × List Value))) (true && gRecv M (.ref 105) 0 && gRoom [] && true) (some (.inr (4, [some (.ref 105), some (.int c), some (.int go), none, none], []))) none = _; rw [recv_s hS.1 qa_105 qo_23]; rfl)) H
    obtain ⟨pK3, qK3⟩ := g_4 hS K3
    rw [pK3, qK3] at H
    have H : Ev none (e1 + 1) 66 136 [some (.ref 104), some (.ref b), some (.int go), some (.int ha), some (.int be), some (.int le), some (.int d), some (.int c), some (.int av), c9] [.int (G_4 M c go)] M v M' 0 0 := H
    have H : Ev none (e1 + 1) 66 143 [some (.ref 104), some (.ref b), some (.int go), some (.int ha), some (.int be), some (.int le), some (.int d), some (.int c), some (.int av), c9] [.ref 104, .int d, .int av, .ref b, .ref 104, .int (G_4 M c go)] M v M' 0 0 := Ev.back 5 (fun n => rfl) H
    have H : Ev none (e1 + 1) 66 146 [some (.ref 104), some (.ref b), some (.int go), some (.int ha), some (.int be), some (.int le), some (.int d), some (.int c), some (.int av), c9] [.ref 109, .int d, .int av, .ref b, .ref 104, .int (G_4 M c go)] M v M' 0 0 := Ev.back 1 (gs_3 rfl rfl (gf_u hS.1 qa_104 qr_22_1 qu_27 rfl)) H
    have H : Ev none (e1 + 1) 66 147 [some (.ref 104), some (.ref b), some (.int go), some (.int ha), some (.int be), some (.int le), some (.int d), some (.int c), some (.int av), c9] [.int ha, .ref 109, .int d, .int av, .ref b, .ref 104, .int (G_4 M c go)] M v M' 0 0 := Ev.back 1 (fun n => rfl) H
    obtain ⟨b4, H⟩ := Ev.aal rfl rfl hS.1 qa_109 qz_27 H
    have H : Ev none (e1 + 1) 66 148 [some (.ref 104), some (.ref b), some (.int go), some (.int ha), some (.int be), some (.int le), some (.int d), some (.int c), some (.int av), c9] [.ref (oI M 109 ha), .int d, .int av, .ref b, .ref 104, .int (G_4 M c go)] M v M' 0 0 := H
    have H : Ev none (e1 + 1) 66 151 [some (.ref 104), some (.ref b), some (.int go), some (.int ha), some (.int be), some (.int le), some (.int d), some (.int c), some (.int av), c9] [.int (zI M (oI M 109 ha) 13), .int d, .int av, .ref b, .ref 104, .int (G_4 M c go)] M v M' 0 0 := Ev.back 1 (gs_3 rfl rfl (gf_i hS.1 b4.2 qi_28_13 rfl)) H
    obtain ⟨vK5, MK5, K5, H⟩ := Ev.callb (fun n_ => gs_7 rfl rfl (show gCal (.invokevirtual 238) 7 (.int (zI M (oI M 109 ha) 13) :: .int d :: .int av :: .ref b :: .ref 104 :: [.int (G_4 M c go)]) M = some (.inr (68, [some (.ref 104), some (.ref b), some (.int av), some (.int d), some (.int (zI M (oI M 109 ha) 13)), none, none], [.int (G_4 M c go)])) from by show @cond (Option ((List Value × Mem) ⊕ (Nat × Lo × List Value))) (true && gRecv M (.ref 104) 7 && gRoom [.int (G_4 M c go)] && true) (some (.inr (68, [some (.ref 104), some (.ref b), some (.int av), some (.int d), some (.int (zI M (oI M 109 ha) 13)), none, none], [.int (G_4 M c go)]))) none = _; rw [recv_s hS.1 qa_104 qo_22]; rfl)) H
    have K5 : Ev none e1 68 0 [some (.ref 104), some (.ref b), some (.int av), some (.int d), some (.int (zI M (oI M 109 ha) 13)), none, none] [] M vK5 MK5 0 0 := K5
    have HF := H
    exact Or.inr (⟨h2, b1, b4.1, ⟨e1, vK5, MK5, rfl, K5, HF⟩⟩)
theorem chow_154 {e : Nat} {M M' : Mem} {v : Option Value} {go ha be le d c av y ds : Int32} {b : Nat} {c9 : Option Value} (hS : SQ M) (a_b : gNth sT b = some 21) (H : Ev none e 66 154 [some (.ref 104), some (.ref b), some (.int go), some (.int ha), some (.int be), some (.int le), some (.int d), some (.int c), some (.int av), c9] [.int y, .int ds] M v M' 0 0) : (be = (-1) ∧ Ev none e 66 29 [some (.ref 104), some (.ref b), some (.int go), some (.int ha), some (.int d), some (.int (ds + y)), some (.int (d + 1)), some (.int c), some (.int av), some (.int (ds + y))] [] M v M' 0 0) ∨ (¬ (be = (-1)) ∧ le ≤ (ds + y) ∧ Ev none e 66 29 [some (.ref 104), some (.ref b), some (.int go), some (.int ha), some (.int be), some (.int le), some (.int (d + 1)), some (.int c), some (.int av), some (.int (ds + y))] [] M v M' 0 0) ∨ (¬ (be = (-1)) ∧ ¬ (le ≤ (ds + y)) ∧ Ev none e 66 29 [some (.ref 104), some (.ref b), some (.int go), some (.int ha), some (.int d), some (.int (ds + y)), some (.int (d + 1)), some (.int c), some (.int av), some (.int (ds + y))] [] M v M' 0 0) := by
  have H : Ev none e 66 (if be = (-1) then 170 else 163) [some (.ref 104), some (.ref b), some (.int go), some (.int ha), some (.int be), some (.int le), some (.int d), some (.int c), some (.int av), some (.int (ds + y))] [] M v M' 0 0 := Ev.back 5 (fun n => rfl) H
  by_cases h1 : be = (-1)
  · rw [if_pos h1] at H
    have H : Ev none e 66 29 [some (.ref 104), some (.ref b), some (.int go), some (.int ha), some (.int d), some (.int (ds + y)), some (.int (d + 1)), some (.int c), some (.int av), some (.int (ds + y))] [] M v M' 0 0 := Ev.back 6 (fun n => rfl) H
    have HF := H
    exact Or.inl ⟨h1, HF⟩
  · rw [if_neg h1] at H
    have H : Ev none e 66 (if le ≤ (ds + y) then 178 else 170) [some (.ref 104), some (.ref b), some (.int go), some (.int ha), some (.int be), some (.int le), some (.int d), some (.int c), some (.int av), some (.int (ds + y))] [] M v M' 0 0 := Ev.back 3 (fun n => rfl) H
    by_cases h2 : le ≤ (ds + y)
    · rw [if_pos h2] at H
      have H : Ev none e 66 29 [some (.ref 104), some (.ref b), some (.int go), some (.int ha), some (.int be), some (.int le), some (.int (d + 1)), some (.int c), some (.int av), some (.int (ds + y))] [] M v M' 0 0 := Ev.back 2 (fun n => rfl) H
      have HF := H
      exact Or.inr (Or.inl ⟨h1, h2, HF⟩)
    · rw [if_neg h2] at H
      have H : Ev none e 66 29 [some (.ref 104), some (.ref b), some (.int go), some (.int ha), some (.int d), some (.int (ds + y)), some (.int (d + 1)), some (.int c), some (.int av), some (.int (ds + y))] [] M v M' 0 0 := Ev.back 6 (fun n => rfl) H
      have HF := H
      exact Or.inr (Or.inr (⟨h1, h2, HF⟩))
theorem weis_0 {e : Nat} {M M' : Mem} {v : Option Value} {av d si : Int32} (hS : SQ M) (H : Ev none e 68 0 [some (.ref 104), some (.ref 137), some (.int av), some (.int d), some (.int si), none, none] [] M v M' 0 0) : ((rI M (oI M 129 0) av) ≤ 0 ∧ (0 ≤ (0 : Int32).toInt ∧ (0 : Int32).toInt < 7) ∧ (0 ≤ av.toInt ∧ av.toInt < 1536) ∧ Ev none e 68 72 [some (.ref 104), some (.ref 137), some (.int av), some (.int d), some (.int si), some (.int (av - av / 256 * 256)), some (.int 0)] [] M v M' 0 0) ∨ (¬ ((rI M (oI M 129 0) av) ≤ 0) ∧ (G_8 M (fR M 104 7) (av - av / 256 * 256)) = 0 ∧ (0 ≤ (0 : Int32).toInt ∧ (0 : Int32).toInt < 7) ∧ (0 ≤ av.toInt ∧ av.toInt < 1536) ∧ Ev none e 68 72 [some (.ref 104), some (.ref 137), some (.int av), some (.int d), some (.int si), some (.int (av - av / 256 * 256)), some (.int 0)] [] M v M' 0 0) ∨ (¬ ((rI M (oI M 129 0) av) ≤ 0) ∧ ¬ ((G_8 M (fR M 104 7) (av - av / 256 * 256)) = 0) ∧ (0 ≤ (0 : Int32).toInt ∧ (0 : Int32).toInt < 7) ∧ (0 ≤ av.toInt ∧ av.toInt < 1536) ∧ (0 ≤ (0 : Int32).toInt ∧ (0 : Int32).toInt < 7) ∧ (0 ≤ av.toInt ∧ av.toInt < 1536) ∧ (0 ≤ (av - av / 256 * 256).toInt ∧ (av - av / 256 * 256).toInt < 256) ∧ Ev none e 68 72 [some (.ref 104), some (.ref 137), some (.int av), some (.int d), some (.int si), some (.int (av - av / 256 * 256)), some (.int (0 + ((rI M (oI M 129 0) av) * ((if 0 < ((zI M (fR M 104 2) 10) - (rI M (fR M 104 7 + 4) (av - av / 256 * 256))) then ((zI M (fR M 104 2) 10) - (rI M (fR M 104 7 + 4) (av - av / 256 * 256))) else 0) / 10))))] [] M v M' 0 0) := by
  have H : Ev none e 68 11 [some (.ref 104), some (.ref 137), some (.int av), some (.int d), some (.int si), some (.int (av - av / 256 * 256)), some (.int 0)] [.ref 104] M v M' 0 0 := Ev.back 7 (fun n => rfl) H
  have H : Ev none e 68 14 [some (.ref 104), some (.ref 137), some (.int av), some (.int d), some (.int si), some (.int (av - av / 256 * 256)), some (.int 0)] [.ref 129] M v M' 0 0 := Ev.back 1 (gs_3 rfl rfl (gf_u hS.1 qa_104 qr_22_5 qu_38 rfl)) H
  have H : Ev none e 68 15 [some (.ref 104), some (.ref 137), some (.int av), some (.int d), some (.int si), some (.int (av - av / 256 * 256)), some (.int 0)] [.int 0, .ref 129] M v M' 0 0 := Ev.back 1 (fun n => rfl) H
  obtain ⟨b1, H⟩ := Ev.aal rfl rfl hS.1 qa_129 qz_38 H
  have H : Ev none e 68 16 [some (.ref 104), some (.ref 137), some (.int av), some (.int d), some (.int si), some (.int (av - av / 256 * 256)), some (.int 0)] [.ref (oI M 129 0)] M v M' 0 0 := H
  have H : Ev none e 68 17 [some (.ref 104), some (.ref 137), some (.int av), some (.int d), some (.int si), some (.int (av - av / 256 * 256)), some (.int 0)] [.int av, .ref (oI M 129 0)] M v M' 0 0 := Ev.back 1 (fun n => rfl) H
  obtain ⟨b2, H⟩ := Ev.ial rfl rfl hS.1 b1.2 qw_39 H
  have H : Ev none e 68 18 [some (.ref 104), some (.ref 137), some (.int av), some (.int d), some (.int si), some (.int (av - av / 256 * 256)), some (.int 0)] [.int (rI M (oI M 129 0) av)] M v M' 0 0 := H
  have H : Ev none e 68 (if (rI M (oI M 129 0) av) ≤ 0 then 72 else 21) [some (.ref 104), some (.ref 137), some (.int av), some (.int d), some (.int si), some (.int (av - av / 256 * 256)), some (.int 0)] [] M v M' 0 0 := Ev.back 1 (fun n => rfl) H
  by_cases h3 : (rI M (oI M 129 0) av) ≤ 0
  · rw [if_pos h3] at H
    have HF := H
    exact Or.inl ⟨h3, b1.1, b2, HF⟩
  · rw [if_neg h3] at H
    have H : Ev none e 68 22 [some (.ref 104), some (.ref 137), some (.int av), some (.int d), some (.int si), some (.int (av - av / 256 * 256)), some (.int 0)] [.ref 104] M v M' 0 0 := Ev.back 1 (fun n => rfl) H
    have H : Ev none e 68 25 [some (.ref 104), some (.ref 137), some (.int av), some (.int d), some (.int si), some (.int (av - av / 256 * 256)), some (.int 0)] [.ref (fR M 104 7)] M v M' 0 0 := Ev.back 1 (gs_3 rfl rfl (gf_r hS.1 qa_104 qr_22_7 rfl)) H
    have H : Ev none e 68 27 [some (.ref 104), some (.ref 137), some (.int av), some (.int d), some (.int si), some (.int (av - av / 256 * 256)), some (.int 0)] [.int (av - av / 256 * 256), .ref (fR M 104 7)] M v M' 0 0 := Ev.back 1 (fun n => rfl) H
    obtain ⟨e1, rfl⟩ := Ev.dpos rfl rfl H
    obtain ⟨vK4, MK4, K4, H⟩ := Ev.callb (fun n_ => gs_7 rfl rfl (show gCal (.invokevirtual 178) 7 (.int (av - av / 256 * 256) :: .ref (fR M 104 7) :: []) M = some (.inr (8, [some (.ref (fR M 104 7)), some (.int (av - av / 256 * 256))], [])) from by show @cond (Option ((List Value × Mem) ⊕ (Nat × Lo × List Value))) (true && gRecv M (.ref (fR M 104 7)) 1 && gRoom [] && true) (some (.inr (8, [some (.ref (fR M 104 7)), some (.int (av - av / 256 * 256))], []))) none = _; rw [recv_s hS.1 (hS.1.fr qa_104 qr_22_7).2 qo_8]; rfl)) H
    obtain ⟨pK4, qK4⟩ := g_8 hS (hS.1.fr qa_104 qr_22_7).2 K4
    rw [pK4, qK4] at H
    have H : Ev none (e1 + 1) 68 30 [some (.ref 104), some (.ref 137), some (.int av), some (.int d), some (.int si), some (.int (av - av / 256 * 256)), some (.int 0)] [.int (G_8 M (fR M 104 7) (av - av / 256 * 256))] M v M' 0 0 := H
    have H : Ev none (e1 + 1) 68 (if (G_8 M (fR M 104 7) (av - av / 256 * 256)) = 0 then 72 else 33) [some (.ref 104), some (.ref 137), some (.int av), some (.int d), some (.int si), some (.int (av - av / 256 * 256)), some (.int 0)] [] M v M' 0 0 := Ev.back 1 (fun n => rfl) H
    by_cases h5 : (G_8 M (fR M 104 7) (av - av / 256 * 256)) = 0
    · rw [if_pos h5] at H
      have HF := H
      exact Or.inr (Or.inl ⟨h3, h5, b1.1, b2, HF⟩)
    · rw [if_neg h5] at H
      have H : Ev none (e1 + 1) 68 36 [some (.ref 104), some (.ref 137), some (.int av), some (.int d), some (.int si), some (.int (av - av / 256 * 256)), some (.int 0)] [.ref 104, .int 0] M v M' 0 0 := Ev.back 2 (fun n => rfl) H
      have H : Ev none (e1 + 1) 68 39 [some (.ref 104), some (.ref 137), some (.int av), some (.int d), some (.int si), some (.int (av - av / 256 * 256)), some (.int 0)] [.ref 129, .int 0] M v M' 0 0 := Ev.back 1 (gs_3 rfl rfl (gf_u hS.1 qa_104 qr_22_5 qu_38 rfl)) H
      have H : Ev none (e1 + 1) 68 40 [some (.ref 104), some (.ref 137), some (.int av), some (.int d), some (.int si), some (.int (av - av / 256 * 256)), some (.int 0)] [.int 0, .ref 129, .int 0] M v M' 0 0 := Ev.back 1 (fun n => rfl) H
      obtain ⟨b6, H⟩ := Ev.aal rfl rfl hS.1 qa_129 qz_38 H
      have H : Ev none (e1 + 1) 68 41 [some (.ref 104), some (.ref 137), some (.int av), some (.int d), some (.int si), some (.int (av - av / 256 * 256)), some (.int 0)] [.ref (oI M 129 0), .int 0] M v M' 0 0 := H
      have H : Ev none (e1 + 1) 68 42 [some (.ref 104), some (.ref 137), some (.int av), some (.int d), some (.int si), some (.int (av - av / 256 * 256)), some (.int 0)] [.int av, .ref (oI M 129 0), .int 0] M v M' 0 0 := Ev.back 1 (fun n => rfl) H
      obtain ⟨b7, H⟩ := Ev.ial rfl rfl hS.1 b6.2 qw_39 H
      have H : Ev none (e1 + 1) 68 43 [some (.ref 104), some (.ref 137), some (.int av), some (.int d), some (.int si), some (.int (av - av / 256 * 256)), some (.int 0)] [.int (rI M (oI M 129 0) av), .int 0] M v M' 0 0 := H
      have H : Ev none (e1 + 1) 68 45 [some (.ref 104), some (.ref 137), some (.int av), some (.int d), some (.int si), some (.int (av - av / 256 * 256)), some (.int 0)] [.ref 104, .int 0, .int (rI M (oI M 129 0) av), .int 0] M v M' 0 0 := Ev.back 2 (fun n => rfl) H
      have H : Ev none (e1 + 1) 68 48 [some (.ref 104), some (.ref 137), some (.int av), some (.int d), some (.int si), some (.int (av - av / 256 * 256)), some (.int 0)] [.ref (fR M 104 2), .int 0, .int (rI M (oI M 129 0) av), .int 0] M v M' 0 0 := Ev.back 1 (gs_3 rfl rfl (gf_r hS.1 qa_104 qr_22_2 rfl)) H
      have H : Ev none (e1 + 1) 68 51 [some (.ref 104), some (.ref 137), some (.int av), some (.int d), some (.int si), some (.int (av - av / 256 * 256)), some (.int 0)] [.int (zI M (fR M 104 2) 10), .int 0, .int (rI M (oI M 129 0) av), .int 0] M v M' 0 0 := Ev.back 1 (gs_3 rfl rfl (gf_i hS.1 (hS.1.fr qa_104 qr_22_2).2 qi_28_10 rfl)) H
      have H : Ev none (e1 + 1) 68 52 [some (.ref 104), some (.ref 137), some (.int av), some (.int d), some (.int si), some (.int (av - av / 256 * 256)), some (.int 0)] [.ref 104, .int (zI M (fR M 104 2) 10), .int 0, .int (rI M (oI M 129 0) av), .int 0] M v M' 0 0 := Ev.back 1 (fun n => rfl) H
      have H : Ev none (e1 + 1) 68 55 [some (.ref 104), some (.ref 137), some (.int av), some (.int d), some (.int si), some (.int (av - av / 256 * 256)), some (.int 0)] [.ref (fR M 104 7), .int (zI M (fR M 104 2) 10), .int 0, .int (rI M (oI M 129 0) av), .int 0] M v M' 0 0 := Ev.back 1 (gs_3 rfl rfl (gf_r hS.1 qa_104 qr_22_7 rfl)) H
      have H : Ev none (e1 + 1) 68 58 [some (.ref 104), some (.ref 137), some (.int av), some (.int d), some (.int si), some (.int (av - av / 256 * 256)), some (.int 0)] [.ref (fR M 104 7 + 4), .int (zI M (fR M 104 2) 10), .int 0, .int (rI M (oI M 129 0) av), .int 0] M v M' 0 0 := Ev.back 1 (gs_3 rfl rfl (gf_x hS.1 (hS.1.fr qa_104 qr_22_7).2 qo_8 (fx_l5 hS (hS.1.fr qa_104 qr_22_7).2) rfl)) H
      have H : Ev none (e1 + 1) 68 60 [some (.ref 104), some (.ref 137), some (.int av), some (.int d), some (.int si), some (.int (av - av / 256 * 256)), some (.int 0)] [.int (av - av / 256 * 256), .ref (fR M 104 7 + 4), .int (zI M (fR M 104 2) 10), .int 0, .int (rI M (oI M 129 0) av), .int 0] M v M' 0 0 := Ev.back 1 (fun n => rfl) H
      obtain ⟨b8, H⟩ := Ev.ial rfl rfl hS.1 (fx_h5 (hS.1.fr qa_104 qr_22_7).2) qw_12 H
      have H : Ev none (e1 + 1) 68 61 [some (.ref 104), some (.ref 137), some (.int av), some (.int d), some (.int si), some (.int (av - av / 256 * 256)), some (.int 0)] [.int (rI M (fR M 104 7 + 4) (av - av / 256 * 256)), .int (zI M (fR M 104 2) 10), .int 0, .int (rI M (oI M 129 0) av), .int 0] M v M' 0 0 := H
      have H : Ev none (e1 + 1) 68 72 [some (.ref 104), some (.ref 137), some (.int av), some (.int d), some (.int si), some (.int (av - av / 256 * 256)), some (.int (0 + ((rI M (oI M 129 0) av) * ((if 0 < ((zI M (fR M 104 2) 10) - (rI M (fR M 104 7 + 4) (av - av / 256 * 256))) then ((zI M (fR M 104 2) 10) - (rI M (fR M 104 7 + 4) (av - av / 256 * 256))) else 0) / 10))))] [] M v M' 0 0 := Ev.back 7 (fun n => rfl) H
      have HF := H
      exact Or.inr (Or.inr (⟨h3, h5, b1.1, b2, b6.1, b7, b8, HF⟩))
theorem weis_72 {e : Nat} {M M' : Mem} {v : Option Value} {av d si c wt : Int32} (hS : SQ M) (H : Ev none e 68 72 [some (.ref 104), some (.ref 137), some (.int av), some (.int d), some (.int si), some (.int c), some (.int wt)] [] M v M' 0 0) : (0 ≤ (1 : Int32).toInt ∧ (1 : Int32).toInt < 7) ∧ (0 ≤ av.toInt ∧ av.toInt < 1536) ∧ (0 ≤ c.toInt ∧ c.toInt < 256) ∧ (0 ≤ (2 : Int32).toInt ∧ (2 : Int32).toInt < 7) ∧ (0 ≤ av.toInt ∧ av.toInt < 1536) ∧ (0 ≤ c.toInt ∧ c.toInt < 256) ∧ (0 ≤ (zI M 137 0).toInt ∧ (zI M 137 0).toInt < 256) ∧ Ev none e 68 139 [some (.ref 104), some (.ref 137), some (.int av), some (.int d), some (.int si), some (.int c), some (.int ((wt + ((rI M (oI M 129 1) av) * ((rI M (fR M 104 7 + 5) c) / 10))) + ((rI M (oI M 129 2) av) * (if 0 ≤ ((rI M (fR M 104 7 + 3) c) - (rI M (fR M 104 7 + 3) (zI M 137 0))) then ((rI M (fR M 104 7 + 3) c) - (rI M (fR M 104 7 + 3) (zI M 137 0))) else 0 - ((rI M (fR M 104 7 + 3) c) - (rI M (fR M 104 7 + 3) (zI M 137 0)))))))] [] M v M' 0 0 := by
  have H : Ev none e 68 75 [some (.ref 104), some (.ref 137), some (.int av), some (.int d), some (.int si), some (.int c), some (.int wt)] [.ref 104, .int wt] M v M' 0 0 := Ev.back 2 (fun n => rfl) H
  have H : Ev none e 68 78 [some (.ref 104), some (.ref 137), some (.int av), some (.int d), some (.int si), some (.int c), some (.int wt)] [.ref 129, .int wt] M v M' 0 0 := Ev.back 1 (gs_3 rfl rfl (gf_u hS.1 qa_104 qr_22_5 qu_38 rfl)) H
  have H : Ev none e 68 79 [some (.ref 104), some (.ref 137), some (.int av), some (.int d), some (.int si), some (.int c), some (.int wt)] [.int 1, .ref 129, .int wt] M v M' 0 0 := Ev.back 1 (fun n => rfl) H
  obtain ⟨b1, H⟩ := Ev.aal rfl rfl hS.1 qa_129 qz_38 H
  have H : Ev none e 68 80 [some (.ref 104), some (.ref 137), some (.int av), some (.int d), some (.int si), some (.int c), some (.int wt)] [.ref (oI M 129 1), .int wt] M v M' 0 0 := H
  have H : Ev none e 68 81 [some (.ref 104), some (.ref 137), some (.int av), some (.int d), some (.int si), some (.int c), some (.int wt)] [.int av, .ref (oI M 129 1), .int wt] M v M' 0 0 := Ev.back 1 (fun n => rfl) H
  obtain ⟨b2, H⟩ := Ev.ial rfl rfl hS.1 b1.2 qw_39 H
  have H : Ev none e 68 82 [some (.ref 104), some (.ref 137), some (.int av), some (.int d), some (.int si), some (.int c), some (.int wt)] [.int (rI M (oI M 129 1) av), .int wt] M v M' 0 0 := H
  have H : Ev none e 68 83 [some (.ref 104), some (.ref 137), some (.int av), some (.int d), some (.int si), some (.int c), some (.int wt)] [.ref 104, .int (rI M (oI M 129 1) av), .int wt] M v M' 0 0 := Ev.back 1 (fun n => rfl) H
  have H : Ev none e 68 86 [some (.ref 104), some (.ref 137), some (.int av), some (.int d), some (.int si), some (.int c), some (.int wt)] [.ref (fR M 104 7), .int (rI M (oI M 129 1) av), .int wt] M v M' 0 0 := Ev.back 1 (gs_3 rfl rfl (gf_r hS.1 qa_104 qr_22_7 rfl)) H
  have H : Ev none e 68 89 [some (.ref 104), some (.ref 137), some (.int av), some (.int d), some (.int si), some (.int c), some (.int wt)] [.ref (fR M 104 7 + 5), .int (rI M (oI M 129 1) av), .int wt] M v M' 0 0 := Ev.back 1 (gs_3 rfl rfl (gf_x hS.1 (hS.1.fr qa_104 qr_22_7).2 qo_8 (fx_l6 hS (hS.1.fr qa_104 qr_22_7).2) rfl)) H
  have H : Ev none e 68 91 [some (.ref 104), some (.ref 137), some (.int av), some (.int d), some (.int si), some (.int c), some (.int wt)] [.int c, .ref (fR M 104 7 + 5), .int (rI M (oI M 129 1) av), .int wt] M v M' 0 0 := Ev.back 1 (fun n => rfl) H
  obtain ⟨b3, H⟩ := Ev.ial rfl rfl hS.1 (fx_h6 (hS.1.fr qa_104 qr_22_7).2) qw_13 H
  have H : Ev none e 68 92 [some (.ref 104), some (.ref 137), some (.int av), some (.int d), some (.int si), some (.int c), some (.int wt)] [.int (rI M (fR M 104 7 + 5) c), .int (rI M (oI M 129 1) av), .int wt] M v M' 0 0 := H
  have H : Ev none e 68 102 [some (.ref 104), some (.ref 137), some (.int av), some (.int d), some (.int si), some (.int c), some (.int (wt + ((rI M (oI M 129 1) av) * ((rI M (fR M 104 7 + 5) c) / 10))))] [.ref 104, .int (wt + ((rI M (oI M 129 1) av) * ((rI M (fR M 104 7 + 5) c) / 10)))] M v M' 0 0 := Ev.back 7 (fun n => rfl) H
  have H : Ev none e 68 105 [some (.ref 104), some (.ref 137), some (.int av), some (.int d), some (.int si), some (.int c), some (.int (wt + ((rI M (oI M 129 1) av) * ((rI M (fR M 104 7 + 5) c) / 10))))] [.ref 129, .int (wt + ((rI M (oI M 129 1) av) * ((rI M (fR M 104 7 + 5) c) / 10)))] M v M' 0 0 := Ev.back 1 (gs_3 rfl rfl (gf_u hS.1 qa_104 qr_22_5 qu_38 rfl)) H
  have H : Ev none e 68 106 [some (.ref 104), some (.ref 137), some (.int av), some (.int d), some (.int si), some (.int c), some (.int (wt + ((rI M (oI M 129 1) av) * ((rI M (fR M 104 7 + 5) c) / 10))))] [.int 2, .ref 129, .int (wt + ((rI M (oI M 129 1) av) * ((rI M (fR M 104 7 + 5) c) / 10)))] M v M' 0 0 := Ev.back 1 (fun n => rfl) H
  obtain ⟨b4, H⟩ := Ev.aal rfl rfl hS.1 qa_129 qz_38 H
  have H : Ev none e 68 107 [some (.ref 104), some (.ref 137), some (.int av), some (.int d), some (.int si), some (.int c), some (.int (wt + ((rI M (oI M 129 1) av) * ((rI M (fR M 104 7 + 5) c) / 10))))] [.ref (oI M 129 2), .int (wt + ((rI M (oI M 129 1) av) * ((rI M (fR M 104 7 + 5) c) / 10)))] M v M' 0 0 := H
  have H : Ev none e 68 108 [some (.ref 104), some (.ref 137), some (.int av), some (.int d), some (.int si), some (.int c), some (.int (wt + ((rI M (oI M 129 1) av) * ((rI M (fR M 104 7 + 5) c) / 10))))] [.int av, .ref (oI M 129 2), .int (wt + ((rI M (oI M 129 1) av) * ((rI M (fR M 104 7 + 5) c) / 10)))] M v M' 0 0 := Ev.back 1 (fun n => rfl) H
  obtain ⟨b5, H⟩ := Ev.ial rfl rfl hS.1 b4.2 qw_39 H
  have H : Ev none e 68 109 [some (.ref 104), some (.ref 137), some (.int av), some (.int d), some (.int si), some (.int c), some (.int (wt + ((rI M (oI M 129 1) av) * ((rI M (fR M 104 7 + 5) c) / 10))))] [.int (rI M (oI M 129 2) av), .int (wt + ((rI M (oI M 129 1) av) * ((rI M (fR M 104 7 + 5) c) / 10)))] M v M' 0 0 := H
  have H : Ev none e 68 110 [some (.ref 104), some (.ref 137), some (.int av), some (.int d), some (.int si), some (.int c), some (.int (wt + ((rI M (oI M 129 1) av) * ((rI M (fR M 104 7 + 5) c) / 10))))] [.ref 104, .int (rI M (oI M 129 2) av), .int (wt + ((rI M (oI M 129 1) av) * ((rI M (fR M 104 7 + 5) c) / 10)))] M v M' 0 0 := Ev.back 1 (fun n => rfl) H
  have H : Ev none e 68 113 [some (.ref 104), some (.ref 137), some (.int av), some (.int d), some (.int si), some (.int c), some (.int (wt + ((rI M (oI M 129 1) av) * ((rI M (fR M 104 7 + 5) c) / 10))))] [.ref (fR M 104 7), .int (rI M (oI M 129 2) av), .int (wt + ((rI M (oI M 129 1) av) * ((rI M (fR M 104 7 + 5) c) / 10)))] M v M' 0 0 := Ev.back 1 (gs_3 rfl rfl (gf_r hS.1 qa_104 qr_22_7 rfl)) H
  have H : Ev none e 68 116 [some (.ref 104), some (.ref 137), some (.int av), some (.int d), some (.int si), some (.int c), some (.int (wt + ((rI M (oI M 129 1) av) * ((rI M (fR M 104 7 + 5) c) / 10))))] [.ref (fR M 104 7 + 3), .int (rI M (oI M 129 2) av), .int (wt + ((rI M (oI M 129 1) av) * ((rI M (fR M 104 7 + 5) c) / 10)))] M v M' 0 0 := Ev.back 1 (gs_3 rfl rfl (gf_x hS.1 (hS.1.fr qa_104 qr_22_7).2 qo_8 (fx_l4 hS (hS.1.fr qa_104 qr_22_7).2) rfl)) H
  have H : Ev none e 68 118 [some (.ref 104), some (.ref 137), some (.int av), some (.int d), some (.int si), some (.int c), some (.int (wt + ((rI M (oI M 129 1) av) * ((rI M (fR M 104 7 + 5) c) / 10))))] [.int c, .ref (fR M 104 7 + 3), .int (rI M (oI M 129 2) av), .int (wt + ((rI M (oI M 129 1) av) * ((rI M (fR M 104 7 + 5) c) / 10)))] M v M' 0 0 := Ev.back 1 (fun n => rfl) H
  obtain ⟨b6, H⟩ := Ev.ial rfl rfl hS.1 (fx_h4 (hS.1.fr qa_104 qr_22_7).2) qw_11 H
  have H : Ev none e 68 119 [some (.ref 104), some (.ref 137), some (.int av), some (.int d), some (.int si), some (.int c), some (.int (wt + ((rI M (oI M 129 1) av) * ((rI M (fR M 104 7 + 5) c) / 10))))] [.int (rI M (fR M 104 7 + 3) c), .int (rI M (oI M 129 2) av), .int (wt + ((rI M (oI M 129 1) av) * ((rI M (fR M 104 7 + 5) c) / 10)))] M v M' 0 0 := H
  have H : Ev none e 68 120 [some (.ref 104), some (.ref 137), some (.int av), some (.int d), some (.int si), some (.int c), some (.int (wt + ((rI M (oI M 129 1) av) * ((rI M (fR M 104 7 + 5) c) / 10))))] [.ref 104, .int (rI M (fR M 104 7 + 3) c), .int (rI M (oI M 129 2) av), .int (wt + ((rI M (oI M 129 1) av) * ((rI M (fR M 104 7 + 5) c) / 10)))] M v M' 0 0 := Ev.back 1 (fun n => rfl) H
  have H : Ev none e 68 123 [some (.ref 104), some (.ref 137), some (.int av), some (.int d), some (.int si), some (.int c), some (.int (wt + ((rI M (oI M 129 1) av) * ((rI M (fR M 104 7 + 5) c) / 10))))] [.ref (fR M 104 7), .int (rI M (fR M 104 7 + 3) c), .int (rI M (oI M 129 2) av), .int (wt + ((rI M (oI M 129 1) av) * ((rI M (fR M 104 7 + 5) c) / 10)))] M v M' 0 0 := Ev.back 1 (gs_3 rfl rfl (gf_r hS.1 qa_104 qr_22_7 rfl)) H
  have H : Ev none e 68 126 [some (.ref 104), some (.ref 137), some (.int av), some (.int d), some (.int si), some (.int c), some (.int (wt + ((rI M (oI M 129 1) av) * ((rI M (fR M 104 7 + 5) c) / 10))))] [.ref (fR M 104 7 + 3), .int (rI M (fR M 104 7 + 3) c), .int (rI M (oI M 129 2) av), .int (wt + ((rI M (oI M 129 1) av) * ((rI M (fR M 104 7 + 5) c) / 10)))] M v M' 0 0 := Ev.back 1 (gs_3 rfl rfl (gf_x hS.1 (hS.1.fr qa_104 qr_22_7).2 qo_8 (fx_l4 hS (hS.1.fr qa_104 qr_22_7).2) rfl)) H
  have H : Ev none e 68 127 [some (.ref 104), some (.ref 137), some (.int av), some (.int d), some (.int si), some (.int c), some (.int (wt + ((rI M (oI M 129 1) av) * ((rI M (fR M 104 7 + 5) c) / 10))))] [.ref 137, .ref (fR M 104 7 + 3), .int (rI M (fR M 104 7 + 3) c), .int (rI M (oI M 129 2) av), .int (wt + ((rI M (oI M 129 1) av) * ((rI M (fR M 104 7 + 5) c) / 10)))] M v M' 0 0 := Ev.back 1 (fun n => rfl) H
  have H : Ev none e 68 130 [some (.ref 104), some (.ref 137), some (.int av), some (.int d), some (.int si), some (.int c), some (.int (wt + ((rI M (oI M 129 1) av) * ((rI M (fR M 104 7 + 5) c) / 10))))] [.int (zI M 137 0), .ref (fR M 104 7 + 3), .int (rI M (fR M 104 7 + 3) c), .int (rI M (oI M 129 2) av), .int (wt + ((rI M (oI M 129 1) av) * ((rI M (fR M 104 7 + 5) c) / 10)))] M v M' 0 0 := Ev.back 1 (gs_3 rfl rfl (gf_i hS.1 qa_137 qi_40_0 rfl)) H
  obtain ⟨b7, H⟩ := Ev.ial rfl rfl hS.1 (fx_h4 (hS.1.fr qa_104 qr_22_7).2) qw_11 H
  have H : Ev none e 68 131 [some (.ref 104), some (.ref 137), some (.int av), some (.int d), some (.int si), some (.int c), some (.int (wt + ((rI M (oI M 129 1) av) * ((rI M (fR M 104 7 + 5) c) / 10))))] [.int (rI M (fR M 104 7 + 3) (zI M 137 0)), .int (rI M (fR M 104 7 + 3) c), .int (rI M (oI M 129 2) av), .int (wt + ((rI M (oI M 129 1) av) * ((rI M (fR M 104 7 + 5) c) / 10)))] M v M' 0 0 := H
  have H : Ev none e 68 132 [some (.ref 104), some (.ref 137), some (.int av), some (.int d), some (.int si), some (.int c), some (.int (wt + ((rI M (oI M 129 1) av) * ((rI M (fR M 104 7 + 5) c) / 10))))] [.int ((rI M (fR M 104 7 + 3) c) - (rI M (fR M 104 7 + 3) (zI M 137 0))), .int (rI M (oI M 129 2) av), .int (wt + ((rI M (oI M 129 1) av) * ((rI M (fR M 104 7 + 5) c) / 10)))] M v M' 0 0 := Ev.back 1 (fun n => rfl) H
  obtain ⟨e1, rfl⟩ := Ev.dpos rfl rfl H
  have H : Ev none (e1 + 1) 68 139 [some (.ref 104), some (.ref 137), some (.int av), some (.int d), some (.int si), some (.int c), some (.int ((wt + ((rI M (oI M 129 1) av) * ((rI M (fR M 104 7 + 5) c) / 10))) + ((rI M (oI M 129 2) av) * (if 0 ≤ ((rI M (fR M 104 7 + 3) c) - (rI M (fR M 104 7 + 3) (zI M 137 0))) then ((rI M (fR M 104 7 + 3) c) - (rI M (fR M 104 7 + 3) (zI M 137 0))) else 0 - ((rI M (fR M 104 7 + 3) c) - (rI M (fR M 104 7 + 3) (zI M 137 0)))))))] [] M v M' 0 0 := Ev.back 4 (fun n => rfl) H
  have HF := H
  exact ⟨b1.1, b2, b3, b4.1, b5, b6, b7, HF⟩
theorem weis_139 {e : Nat} {M M' : Mem} {v : Option Value} {av d si c wt : Int32} (hS : SQ M) (H : Ev none e 68 139 [some (.ref 104), some (.ref 137), some (.int av), some (.int d), some (.int si), some (.int c), some (.int wt)] [] M v M' 0 0) : ((zI M 104 8) = 0 ∧ (0 ≤ (3 : Int32).toInt ∧ (3 : Int32).toInt < 7) ∧ (0 ≤ av.toInt ∧ av.toInt < 1536) ∧ (0 ≤ c.toInt ∧ c.toInt < 256) ∧ Ev none e 68 174 [some (.ref 104), some (.ref 137), some (.int av), some (.int d), some (.int si), some (.int c), some (.int (wt + ((rI M (oI M 129 3) av) * (rI M (fR M 104 7 + 8) c))))] [] M v M' 0 0) ∨ (¬ ((zI M 104 8) = 0) ∧ Ev none e 68 174 [some (.ref 104), some (.ref 137), some (.int av), some (.int d), some (.int si), some (.int c), some (.int (wt + 0))] [] M v M' 0 0) := by
  have H : Ev none e 68 142 [some (.ref 104), some (.ref 137), some (.int av), some (.int d), some (.int si), some (.int c), some (.int wt)] [.ref 104, .int wt] M v M' 0 0 := Ev.back 2 (fun n => rfl) H
  have H : Ev none e 68 145 [some (.ref 104), some (.ref 137), some (.int av), some (.int d), some (.int si), some (.int c), some (.int wt)] [.int (zI M 104 8), .int wt] M v M' 0 0 := Ev.back 1 (gs_3 rfl rfl (gf_i hS.1 qa_104 qi_22_8 rfl)) H
  have H : Ev none e 68 (if (zI M 104 8) = 0 then 152 else 148) [some (.ref 104), some (.ref 137), some (.int av), some (.int d), some (.int si), some (.int c), some (.int wt)] [.int wt] M v M' 0 0 := Ev.back 1 (fun n => rfl) H
  by_cases h1 : (zI M 104 8) = 0
  · rw [if_pos h1] at H
    have H : Ev none e 68 153 [some (.ref 104), some (.ref 137), some (.int av), some (.int d), some (.int si), some (.int c), some (.int wt)] [.ref 104, .int wt] M v M' 0 0 := Ev.back 1 (fun n => rfl) H
    have H : Ev none e 68 156 [some (.ref 104), some (.ref 137), some (.int av), some (.int d), some (.int si), some (.int c), some (.int wt)] [.ref 129, .int wt] M v M' 0 0 := Ev.back 1 (gs_3 rfl rfl (gf_u hS.1 qa_104 qr_22_5 qu_38 rfl)) H
    have H : Ev none e 68 157 [some (.ref 104), some (.ref 137), some (.int av), some (.int d), some (.int si), some (.int c), some (.int wt)] [.int 3, .ref 129, .int wt] M v M' 0 0 := Ev.back 1 (fun n => rfl) H
    obtain ⟨b2, H⟩ := Ev.aal rfl rfl hS.1 qa_129 qz_38 H
    have H : Ev none e 68 158 [some (.ref 104), some (.ref 137), some (.int av), some (.int d), some (.int si), some (.int c), some (.int wt)] [.ref (oI M 129 3), .int wt] M v M' 0 0 := H
    have H : Ev none e 68 159 [some (.ref 104), some (.ref 137), some (.int av), some (.int d), some (.int si), some (.int c), some (.int wt)] [.int av, .ref (oI M 129 3), .int wt] M v M' 0 0 := Ev.back 1 (fun n => rfl) H
    obtain ⟨b3, H⟩ := Ev.ial rfl rfl hS.1 b2.2 qw_39 H
    have H : Ev none e 68 160 [some (.ref 104), some (.ref 137), some (.int av), some (.int d), some (.int si), some (.int c), some (.int wt)] [.int (rI M (oI M 129 3) av), .int wt] M v M' 0 0 := H
    have H : Ev none e 68 161 [some (.ref 104), some (.ref 137), some (.int av), some (.int d), some (.int si), some (.int c), some (.int wt)] [.ref 104, .int (rI M (oI M 129 3) av), .int wt] M v M' 0 0 := Ev.back 1 (fun n => rfl) H
    have H : Ev none e 68 164 [some (.ref 104), some (.ref 137), some (.int av), some (.int d), some (.int si), some (.int c), some (.int wt)] [.ref (fR M 104 7), .int (rI M (oI M 129 3) av), .int wt] M v M' 0 0 := Ev.back 1 (gs_3 rfl rfl (gf_r hS.1 qa_104 qr_22_7 rfl)) H
    have H : Ev none e 68 167 [some (.ref 104), some (.ref 137), some (.int av), some (.int d), some (.int si), some (.int c), some (.int wt)] [.ref (fR M 104 7 + 8), .int (rI M (oI M 129 3) av), .int wt] M v M' 0 0 := Ev.back 1 (gs_3 rfl rfl (gf_x hS.1 (hS.1.fr qa_104 qr_22_7).2 qo_8 (fx_l9 hS (hS.1.fr qa_104 qr_22_7).2) rfl)) H
    have H : Ev none e 68 169 [some (.ref 104), some (.ref 137), some (.int av), some (.int d), some (.int si), some (.int c), some (.int wt)] [.int c, .ref (fR M 104 7 + 8), .int (rI M (oI M 129 3) av), .int wt] M v M' 0 0 := Ev.back 1 (fun n => rfl) H
    obtain ⟨b4, H⟩ := Ev.ial rfl rfl hS.1 (fx_h9 (hS.1.fr qa_104 qr_22_7).2) qw_16 H
    have H : Ev none e 68 170 [some (.ref 104), some (.ref 137), some (.int av), some (.int d), some (.int si), some (.int c), some (.int wt)] [.int (rI M (fR M 104 7 + 8) c), .int (rI M (oI M 129 3) av), .int wt] M v M' 0 0 := H
    have H : Ev none e 68 174 [some (.ref 104), some (.ref 137), some (.int av), some (.int d), some (.int si), some (.int c), some (.int (wt + ((rI M (oI M 129 3) av) * (rI M (fR M 104 7 + 8) c))))] [] M v M' 0 0 := Ev.back 3 (fun n => rfl) H
    have HF := H
    exact Or.inl ⟨h1, b2.1, b3, b4, HF⟩
  · rw [if_neg h1] at H
    have H : Ev none e 68 174 [some (.ref 104), some (.ref 137), some (.int av), some (.int d), some (.int si), some (.int c), some (.int (wt + 0))] [] M v M' 0 0 := Ev.back 4 (fun n => rfl) H
    have HF := H
    exact Or.inr (⟨h1, HF⟩)
theorem weis_174 {e : Nat} {M M' : Mem} {v : Option Value} {av d si c wt : Int32} (hS : SQ M) (H : Ev none e 68 174 [some (.ref 104), some (.ref 137), some (.int av), some (.int d), some (.int si), some (.int c), some (.int wt)] [] M v M' 0 0) : ((zI M 137 4) = (-1) ∧ Ev none e 68 207 [some (.ref 104), some (.ref 137), some (.int av), some (.int d), some (.int si), some (.int c), some (.int (wt + 0))] [] M v M' 0 0) ∨ (¬ ((zI M 137 4) = (-1)) ∧ (zI M 137 4) = d ∧ Ev none e 68 207 [some (.ref 104), some (.ref 137), some (.int av), some (.int d), some (.int si), some (.int c), some (.int (wt + 0))] [] M v M' 0 0) ∨ (¬ ((zI M 137 4) = (-1)) ∧ ¬ ((zI M 137 4) = d) ∧ (0 ≤ (4 : Int32).toInt ∧ (4 : Int32).toInt < 7) ∧ (0 ≤ av.toInt ∧ av.toInt < 1536) ∧ Ev none e 68 207 [some (.ref 104), some (.ref 137), some (.int av), some (.int d), some (.int si), some (.int c), some (.int (wt + (rI M (oI M 129 4) av)))] [] M v M' 0 0) := by
  have H : Ev none e 68 177 [some (.ref 104), some (.ref 137), some (.int av), some (.int d), some (.int si), some (.int c), some (.int wt)] [.ref 137, .int wt] M v M' 0 0 := Ev.back 2 (fun n => rfl) H
  have H : Ev none e 68 180 [some (.ref 104), some (.ref 137), some (.int av), some (.int d), some (.int si), some (.int c), some (.int wt)] [.int (zI M 137 4), .int wt] M v M' 0 0 := Ev.back 1 (gs_3 rfl rfl (gf_i hS.1 qa_137 qi_40_4 rfl)) H
  have H : Ev none e 68 (if (zI M 137 4) = (-1) then 203 else 184) [some (.ref 104), some (.ref 137), some (.int av), some (.int d), some (.int si), some (.int c), some (.int wt)] [.int wt] M v M' 0 0 := Ev.back 2 (fun n => rfl) H
  by_cases h1 : (zI M 137 4) = (-1)
  · rw [if_pos h1] at H
    have H : Ev none e 68 207 [some (.ref 104), some (.ref 137), some (.int av), some (.int d), some (.int si), some (.int c), some (.int (wt + 0))] [] M v M' 0 0 := Ev.back 3 (fun n => rfl) H
    have HF := H
    exact Or.inl ⟨h1, HF⟩
  · rw [if_neg h1] at H
    have H : Ev none e 68 185 [some (.ref 104), some (.ref 137), some (.int av), some (.int d), some (.int si), some (.int c), some (.int wt)] [.ref 137, .int wt] M v M' 0 0 := Ev.back 1 (fun n => rfl) H
    have H : Ev none e 68 188 [some (.ref 104), some (.ref 137), some (.int av), some (.int d), some (.int si), some (.int c), some (.int wt)] [.int (zI M 137 4), .int wt] M v M' 0 0 := Ev.back 1 (gs_3 rfl rfl (gf_i hS.1 qa_137 qi_40_4 rfl)) H
    have H : Ev none e 68 (if (zI M 137 4) = d then 203 else 192) [some (.ref 104), some (.ref 137), some (.int av), some (.int d), some (.int si), some (.int c), some (.int wt)] [.int wt] M v M' 0 0 := Ev.back 2 (fun n => rfl) H
    by_cases h2 : (zI M 137 4) = d
    · rw [if_pos h2] at H
      have H : Ev none e 68 207 [some (.ref 104), some (.ref 137), some (.int av), some (.int d), some (.int si), some (.int c), some (.int (wt + 0))] [] M v M' 0 0 := Ev.back 3 (fun n => rfl) H
      have HF := H
      exact Or.inr (Or.inl ⟨h1, h2, HF⟩)
    · rw [if_neg h2] at H
      have H : Ev none e 68 193 [some (.ref 104), some (.ref 137), some (.int av), some (.int d), some (.int si), some (.int c), some (.int wt)] [.ref 104, .int wt] M v M' 0 0 := Ev.back 1 (fun n => rfl) H
      have H : Ev none e 68 196 [some (.ref 104), some (.ref 137), some (.int av), some (.int d), some (.int si), some (.int c), some (.int wt)] [.ref 129, .int wt] M v M' 0 0 := Ev.back 1 (gs_3 rfl rfl (gf_u hS.1 qa_104 qr_22_5 qu_38 rfl)) H
      have H : Ev none e 68 197 [some (.ref 104), some (.ref 137), some (.int av), some (.int d), some (.int si), some (.int c), some (.int wt)] [.int 4, .ref 129, .int wt] M v M' 0 0 := Ev.back 1 (fun n => rfl) H
      obtain ⟨b3, H⟩ := Ev.aal rfl rfl hS.1 qa_129 qz_38 H
      have H : Ev none e 68 198 [some (.ref 104), some (.ref 137), some (.int av), some (.int d), some (.int si), some (.int c), some (.int wt)] [.ref (oI M 129 4), .int wt] M v M' 0 0 := H
      have H : Ev none e 68 199 [some (.ref 104), some (.ref 137), some (.int av), some (.int d), some (.int si), some (.int c), some (.int wt)] [.int av, .ref (oI M 129 4), .int wt] M v M' 0 0 := Ev.back 1 (fun n => rfl) H
      obtain ⟨b4, H⟩ := Ev.ial rfl rfl hS.1 b3.2 qw_39 H
      have H : Ev none e 68 200 [some (.ref 104), some (.ref 137), some (.int av), some (.int d), some (.int si), some (.int c), some (.int wt)] [.int (rI M (oI M 129 4) av), .int wt] M v M' 0 0 := H
      have H : Ev none e 68 207 [some (.ref 104), some (.ref 137), some (.int av), some (.int d), some (.int si), some (.int c), some (.int (wt + (rI M (oI M 129 4) av)))] [] M v M' 0 0 := Ev.back 3 (fun n => rfl) H
      have HF := H
      exact Or.inr (Or.inr (⟨h1, h2, b3.1, b4, HF⟩))
theorem weis_207 {e : Nat} {M M' : Mem} {v : Option Value} {av d si c wt : Int32} (hS : SQ M) (H : Ev none e 68 207 [some (.ref 104), some (.ref 137), some (.int av), some (.int d), some (.int si), some (.int c), some (.int wt)] [] M v M' 0 0) : ((zI M 137 3) = c ∧ (0 ≤ (5 : Int32).toInt ∧ (5 : Int32).toInt < 7) ∧ (0 ≤ av.toInt ∧ av.toInt < 1536) ∧ Ev none e 68 233 [some (.ref 104), some (.ref 137), some (.int av), some (.int d), some (.int si), some (.int c), some (.int (wt + (rI M (oI M 129 5) av)))] [] M v M' 0 0) ∨ (¬ ((zI M 137 3) = c) ∧ Ev none e 68 233 [some (.ref 104), some (.ref 137), some (.int av), some (.int d), some (.int si), some (.int c), some (.int (wt + 0))] [] M v M' 0 0) := by
  have H : Ev none e 68 210 [some (.ref 104), some (.ref 137), some (.int av), some (.int d), some (.int si), some (.int c), some (.int wt)] [.ref 137, .int wt] M v M' 0 0 := Ev.back 2 (fun n => rfl) H
  have H : Ev none e 68 213 [some (.ref 104), some (.ref 137), some (.int av), some (.int d), some (.int si), some (.int c), some (.int wt)] [.int (zI M 137 3), .int wt] M v M' 0 0 := Ev.back 1 (gs_3 rfl rfl (gf_i hS.1 qa_137 qi_40_3 rfl)) H
  have H : Ev none e 68 (if (zI M 137 3) = c then 218 else 229) [some (.ref 104), some (.ref 137), some (.int av), some (.int d), some (.int si), some (.int c), some (.int wt)] [.int wt] M v M' 0 0 := Ev.back 2 (fun n => rfl) H
  by_cases h1 : (zI M 137 3) = c
  · rw [if_pos h1] at H
    have H : Ev none e 68 219 [some (.ref 104), some (.ref 137), some (.int av), some (.int d), some (.int si), some (.int c), some (.int wt)] [.ref 104, .int wt] M v M' 0 0 := Ev.back 1 (fun n => rfl) H
    have H : Ev none e 68 222 [some (.ref 104), some (.ref 137), some (.int av), some (.int d), some (.int si), some (.int c), some (.int wt)] [.ref 129, .int wt] M v M' 0 0 := Ev.back 1 (gs_3 rfl rfl (gf_u hS.1 qa_104 qr_22_5 qu_38 rfl)) H
    have H : Ev none e 68 223 [some (.ref 104), some (.ref 137), some (.int av), some (.int d), some (.int si), some (.int c), some (.int wt)] [.int 5, .ref 129, .int wt] M v M' 0 0 := Ev.back 1 (fun n => rfl) H
    obtain ⟨b2, H⟩ := Ev.aal rfl rfl hS.1 qa_129 qz_38 H
    have H : Ev none e 68 224 [some (.ref 104), some (.ref 137), some (.int av), some (.int d), some (.int si), some (.int c), some (.int wt)] [.ref (oI M 129 5), .int wt] M v M' 0 0 := H
    have H : Ev none e 68 225 [some (.ref 104), some (.ref 137), some (.int av), some (.int d), some (.int si), some (.int c), some (.int wt)] [.int av, .ref (oI M 129 5), .int wt] M v M' 0 0 := Ev.back 1 (fun n => rfl) H
    obtain ⟨b3, H⟩ := Ev.ial rfl rfl hS.1 b2.2 qw_39 H
    have H : Ev none e 68 226 [some (.ref 104), some (.ref 137), some (.int av), some (.int d), some (.int si), some (.int c), some (.int wt)] [.int (rI M (oI M 129 5) av), .int wt] M v M' 0 0 := H
    have H : Ev none e 68 233 [some (.ref 104), some (.ref 137), some (.int av), some (.int d), some (.int si), some (.int c), some (.int (wt + (rI M (oI M 129 5) av)))] [] M v M' 0 0 := Ev.back 3 (fun n => rfl) H
    have HF := H
    exact Or.inl ⟨h1, b2.1, b3, HF⟩
  · rw [if_neg h1] at H
    have H : Ev none e 68 233 [some (.ref 104), some (.ref 137), some (.int av), some (.int d), some (.int si), some (.int c), some (.int (wt + 0))] [] M v M' 0 0 := Ev.back 3 (fun n => rfl) H
    have HF := H
    exact Or.inr (⟨h1, HF⟩)
theorem weis_233 {e : Nat} {M M' : Mem} {v : Option Value} {av d si c wt : Int32} (hS : SQ M) (H : Ev none e 68 233 [some (.ref 104), some (.ref 137), some (.int av), some (.int d), some (.int si), some (.int c), some (.int wt)] [] M v M' 0 0) : ((rI M (oI M 129 6) av) ≤ 0 ∧ (0 ≤ (6 : Int32).toInt ∧ (6 : Int32).toInt < 7) ∧ (0 ≤ av.toInt ∧ av.toInt < 1536) ∧ Ev none e 68 269 [some (.ref 104), some (.ref 137), some (.int av), some (.int d), some (.int si), some (.int c), some (.int wt)] [] M v M' 0 0) ∨ (¬ ((rI M (oI M 129 6) av) ≤ 0) ∧ (0 ≤ (6 : Int32).toInt ∧ (6 : Int32).toInt < 7) ∧ (0 ≤ av.toInt ∧ av.toInt < 1536) ∧ (0 ≤ (6 : Int32).toInt ∧ (6 : Int32).toInt < 7) ∧ (0 ≤ av.toInt ∧ av.toInt < 1536) ∧ (∃ e1 v1 M1, e = e1 + 1 ∧ Ev none e1 69 0 [some (.ref 104), some (.int c), some (.int d), some (.int si), none, none, none] [] M v1 M1 0 0 ∧ Ev none e 68 265 [some (.ref 104), some (.ref 137), some (.int av), some (.int d), some (.int si), some (.int c), some (.int wt)] (v1.toList ++ [.int (rI M (oI M 129 6) av), .int wt]) M1 v M' 0 0)) := by
  have H : Ev none e 68 234 [some (.ref 104), some (.ref 137), some (.int av), some (.int d), some (.int si), some (.int c), some (.int wt)] [.ref 104] M v M' 0 0 := Ev.back 1 (fun n => rfl) H
  have H : Ev none e 68 237 [some (.ref 104), some (.ref 137), some (.int av), some (.int d), some (.int si), some (.int c), some (.int wt)] [.ref 129] M v M' 0 0 := Ev.back 1 (gs_3 rfl rfl (gf_u hS.1 qa_104 qr_22_5 qu_38 rfl)) H
  have H : Ev none e 68 239 [some (.ref 104), some (.ref 137), some (.int av), some (.int d), some (.int si), some (.int c), some (.int wt)] [.int 6, .ref 129] M v M' 0 0 := Ev.back 1 (fun n => rfl) H
  obtain ⟨b1, H⟩ := Ev.aal rfl rfl hS.1 qa_129 qz_38 H
  have H : Ev none e 68 240 [some (.ref 104), some (.ref 137), some (.int av), some (.int d), some (.int si), some (.int c), some (.int wt)] [.ref (oI M 129 6)] M v M' 0 0 := H
  have H : Ev none e 68 241 [some (.ref 104), some (.ref 137), some (.int av), some (.int d), some (.int si), some (.int c), some (.int wt)] [.int av, .ref (oI M 129 6)] M v M' 0 0 := Ev.back 1 (fun n => rfl) H
  obtain ⟨b2, H⟩ := Ev.ial rfl rfl hS.1 b1.2 qw_39 H
  have H : Ev none e 68 242 [some (.ref 104), some (.ref 137), some (.int av), some (.int d), some (.int si), some (.int c), some (.int wt)] [.int (rI M (oI M 129 6) av)] M v M' 0 0 := H
  have H : Ev none e 68 (if (rI M (oI M 129 6) av) ≤ 0 then 269 else 245) [some (.ref 104), some (.ref 137), some (.int av), some (.int d), some (.int si), some (.int c), some (.int wt)] [] M v M' 0 0 := Ev.back 1 (fun n => rfl) H
  by_cases h3 : (rI M (oI M 129 6) av) ≤ 0
  · rw [if_pos h3] at H
    have HF := H
    exact Or.inl ⟨h3, b1.1, b2, HF⟩
  · rw [if_neg h3] at H
    have H : Ev none e 68 248 [some (.ref 104), some (.ref 137), some (.int av), some (.int d), some (.int si), some (.int c), some (.int wt)] [.ref 104, .int wt] M v M' 0 0 := Ev.back 2 (fun n => rfl) H
    have H : Ev none e 68 251 [some (.ref 104), some (.ref 137), some (.int av), some (.int d), some (.int si), some (.int c), some (.int wt)] [.ref 129, .int wt] M v M' 0 0 := Ev.back 1 (gs_3 rfl rfl (gf_u hS.1 qa_104 qr_22_5 qu_38 rfl)) H
    have H : Ev none e 68 253 [some (.ref 104), some (.ref 137), some (.int av), some (.int d), some (.int si), some (.int c), some (.int wt)] [.int 6, .ref 129, .int wt] M v M' 0 0 := Ev.back 1 (fun n => rfl) H
    obtain ⟨b4, H⟩ := Ev.aal rfl rfl hS.1 qa_129 qz_38 H
    have H : Ev none e 68 254 [some (.ref 104), some (.ref 137), some (.int av), some (.int d), some (.int si), some (.int c), some (.int wt)] [.ref (oI M 129 6), .int wt] M v M' 0 0 := H
    have H : Ev none e 68 255 [some (.ref 104), some (.ref 137), some (.int av), some (.int d), some (.int si), some (.int c), some (.int wt)] [.int av, .ref (oI M 129 6), .int wt] M v M' 0 0 := Ev.back 1 (fun n => rfl) H
    obtain ⟨b5, H⟩ := Ev.ial rfl rfl hS.1 b4.2 qw_39 H
    have H : Ev none e 68 256 [some (.ref 104), some (.ref 137), some (.int av), some (.int d), some (.int si), some (.int c), some (.int wt)] [.int (rI M (oI M 129 6) av), .int wt] M v M' 0 0 := H
    have H : Ev none e 68 262 [some (.ref 104), some (.ref 137), some (.int av), some (.int d), some (.int si), some (.int c), some (.int wt)] [.int si, .int d, .int c, .ref 104, .int (rI M (oI M 129 6) av), .int wt] M v M' 0 0 := Ev.back 4 (fun n => rfl) H
    obtain ⟨e1, rfl⟩ := Ev.dpos rfl rfl H
    obtain ⟨vK6, MK6, K6, H⟩ := Ev.callb (fun n_ => gs_7 rfl rfl (show gCal (.invokevirtual 258) 7 (.int si :: .int d :: .int c :: .ref 104 :: [.int (rI M (oI M 129 6) av), .int wt]) M = some (.inr (69, [some (.ref 104), some (.int c), some (.int d), some (.int si), none, none, none], [.int (rI M (oI M 129 6) av), .int wt])) from by show @cond (Option ((List Value × Mem) ⊕ (Nat × Lo × List Value))) (true && gRecv M (.ref 104) 7 && gRoom [.int (rI M (oI M 129 6) av), .int wt] && true) (some (.inr (69, [some (.ref 104), some (.int c), some (.int d), some (.int si), none, none, none], [.int (rI M (oI M 129 6) av), .int wt]))) none = _; rw [recv_s hS.1 qa_104 qo_22]; rfl)) H
    have K6 : Ev none e1 69 0 [some (.ref 104), some (.int c), some (.int d), some (.int si), none, none, none] [] M vK6 MK6 0 0 := K6
    have HF := H
    exact Or.inr (⟨h3, b1.1, b2, b4.1, b5, ⟨e1, vK6, MK6, rfl, K6, HF⟩⟩)
theorem weis_265 {e : Nat} {M M' : Mem} {v : Option Value} {av d si c wt y s0 w0 : Int32} (hS : SQ M) (H : Ev none e 68 265 [some (.ref 104), some (.ref 137), some (.int av), some (.int d), some (.int si), some (.int c), some (.int wt)] [.int y, .int s0, .int w0] M v M' 0 0) : v = some (.int (w0 - (s0 * y))) ∧ M' = M := by
  have H : Ev none e 68 271 [some (.ref 104), some (.ref 137), some (.int av), some (.int d), some (.int si), some (.int c), some (.int (w0 - (s0 * y)))] [.int (w0 - (s0 * y))] M v M' 0 0 := Ev.back 4 (fun n => rfl) H
  obtain ⟨z1, z2⟩ := Ev.retz rfl rfl H
  exact ⟨z1, z2⟩
theorem weis_269 {e : Nat} {M M' : Mem} {v : Option Value} {av d si c wt : Int32} (hS : SQ M) (H : Ev none e 68 269 [some (.ref 104), some (.ref 137), some (.int av), some (.int d), some (.int si), some (.int c), some (.int wt)] [] M v M' 0 0) : v = some (.int wt) ∧ M' = M := by
  have H : Ev none e 68 271 [some (.ref 104), some (.ref 137), some (.int av), some (.int d), some (.int si), some (.int c), some (.int wt)] [.int wt] M v M' 0 0 := Ev.back 1 (fun n => rfl) H
  obtain ⟨z1, z2⟩ := Ev.retz rfl rfl H
  exact ⟨z1, z2⟩
theorem chos_0 {e : Nat} {M M' : Mem} {v : Option Value} {go ha : Int32} (hS : SQ M) (H : Ev none e 66 0 [some (.ref 104), some (.ref 137), some (.int go), some (.int ha), none, none, none, none, none, none] [] M v M' 0 0) : (∃ e1 v1 M1, e = e1 + 1 ∧ Ev none e1 3 0 [some (.ref 105), some (.int (zI M 137 0)), some (.int go), none] [] M v1 M1 0 0 ∧ Ev none e 66 12 [some (.ref 104), some (.ref 137), some (.int go), some (.int ha), none, none, none, none, none, none] (v1.toList ++ []) M1 v M' 0 0) := by
  have H : Ev none e 66 1 [some (.ref 104), some (.ref 137), some (.int go), some (.int ha), none, none, none, none, none, none] [.ref 104] M v M' 0 0 := Ev.back 1 (fun n => rfl) H
  have H : Ev none e 66 4 [some (.ref 104), some (.ref 137), some (.int go), some (.int ha), none, none, none, none, none, none] [.ref 105] M v M' 0 0 := Ev.back 1 (gs_3 rfl rfl (gf_u hS.1 qa_104 qr_22_0 qu_23 rfl)) H
  have H : Ev none e 66 5 [some (.ref 104), some (.ref 137), some (.int go), some (.int ha), none, none, none, none, none, none] [.ref 137, .ref 105] M v M' 0 0 := Ev.back 1 (fun n => rfl) H
  have H : Ev none e 66 8 [some (.ref 104), some (.ref 137), some (.int go), some (.int ha), none, none, none, none, none, none] [.int (zI M 137 0), .ref 105] M v M' 0 0 := Ev.back 1 (gs_3 rfl rfl (gf_i hS.1 qa_137 qi_40_0 rfl)) H
  have H : Ev none e 66 9 [some (.ref 104), some (.ref 137), some (.int go), some (.int ha), none, none, none, none, none, none] [.int go, .int (zI M 137 0), .ref 105] M v M' 0 0 := Ev.back 1 (fun n => rfl) H
  obtain ⟨e1, rfl⟩ := Ev.dpos rfl rfl H
  obtain ⟨vK1, MK1, K1, H⟩ := Ev.callb (fun n_ => gs_7 rfl rfl (show gCal (.invokevirtual 222) 7 (.int go :: .int (zI M 137 0) :: .ref 105 :: []) M = some (.inr (3, [some (.ref 105), some (.int (zI M 137 0)), some (.int go), none], [])) from by show @cond (Option ((List Value × Mem) ⊕ (Nat × Lo × List Value))) (true && gRecv M (.ref 105) 0 && gRoom [] && true) (some (.inr (3, [some (.ref 105), some (.int (zI M 137 0)), some (.int go), none], []))) none = _; rw [recv_s hS.1 qa_105 qo_23]; rfl)) H
  have K1 : Ev none e1 3 0 [some (.ref 105), some (.int (zI M 137 0)), some (.int go), none] [] M vK1 MK1 0 0 := K1
  have HF := H
  exact ⟨e1, vK1, MK1, rfl, K1, HF⟩
theorem chos_12 {e : Nat} {M M' : Mem} {v : Option Value} {go ha y : Int32} (hS : SQ M) (H : Ev none e 66 12 [some (.ref 104), some (.ref 137), some (.int go), some (.int ha), none, none, none, none, none, none] [.int y] M v M' 0 0) : (y = (-1) ∧ Ev none e 66 29 [some (.ref 104), some (.ref 137), some (.int go), some (.int ha), some (.int y), some (.int 0), some (.int 0), none, none, none] [] M v M' 0 0) ∨ (¬ (y = (-1)) ∧ v = some (.int y) ∧ M' = M) := by
  have H : Ev none e 66 (if y = (-1) then 23 else 20) [some (.ref 104), some (.ref 137), some (.int go), some (.int ha), some (.int y), none, none, none, none, none] [] M v M' 0 0 := Ev.back 4 (fun n => rfl) H
  by_cases h1 : y = (-1)
  · rw [if_pos h1] at H
    have H : Ev none e 66 29 [some (.ref 104), some (.ref 137), some (.int go), some (.int ha), some (.int y), some (.int 0), some (.int 0), none, none, none] [] M v M' 0 0 := Ev.back 4 (fun n => rfl) H
    have HF := H
    exact Or.inl ⟨h1, HF⟩
  · rw [if_neg h1] at H
    have H : Ev none e 66 22 [some (.ref 104), some (.ref 137), some (.int go), some (.int ha), some (.int y), none, none, none, none, none] [.int y] M v M' 0 0 := Ev.back 1 (fun n => rfl) H
    obtain ⟨z1, z2⟩ := Ev.retz rfl rfl H
    exact Or.inr (⟨h1, z1, z2⟩)
theorem chos_29 {e : Nat} {M M' : Mem} {v : Option Value} {go ha be le d : Int32} {c7 c8 c9 : Option Value} (hS : SQ M) (H : Ev none e 66 29 [some (.ref 104), some (.ref 137), some (.int go), some (.int ha), some (.int be), some (.int le), some (.int d), c7, c8, c9] [] M v M' 0 0) : (8 ≤ d ∧ v = some (.int be) ∧ M' = M) ∨ (¬ (8 ≤ d) ∧ (rI M 108 ((8 * (zI M 137 0)) + d)) = (-1) ∧ (0 ≤ ((8 * (zI M 137 0)) + d).toInt ∧ ((8 * (zI M 137 0)) + d).toInt < 2048) ∧ Ev none e 66 29 [some (.ref 104), some (.ref 137), some (.int go), some (.int ha), some (.int be), some (.int le), some (.int (d + 1)), some (.int (rI M 108 ((8 * (zI M 137 0)) + d))), c8, c9] [] M v M' 0 0) ∨ (¬ (8 ≤ d) ∧ ¬ ((rI M 108 ((8 * (zI M 137 0)) + d)) = (-1)) ∧ (G_7 M (fR M 104 7) (rI M 108 ((8 * (zI M 137 0)) + d))) = 0 ∧ (0 ≤ ((8 * (zI M 137 0)) + d).toInt ∧ ((8 * (zI M 137 0)) + d).toInt < 2048) ∧ Ev none e 66 29 [some (.ref 104), some (.ref 137), some (.int go), some (.int ha), some (.int be), some (.int le), some (.int (d + 1)), some (.int (rI M 108 ((8 * (zI M 137 0)) + d))), c8, c9] [] M v M' 0 0) ∨ (¬ (8 ≤ d) ∧ ¬ ((rI M 108 ((8 * (zI M 137 0)) + d)) = (-1)) ∧ ¬ ((G_7 M (fR M 104 7) (rI M 108 ((8 * (zI M 137 0)) + d))) = 0) ∧ (rI M 128 ((256 * ha) + (rI M 108 ((8 * (zI M 137 0)) + d)))) = (-1) ∧ (0 ≤ ((8 * (zI M 137 0)) + d).toInt ∧ ((8 * (zI M 137 0)) + d).toInt < 2048) ∧ (0 ≤ ((256 * ha) + (rI M 108 ((8 * (zI M 137 0)) + d))).toInt ∧ ((256 * ha) + (rI M 108 ((8 * (zI M 137 0)) + d))).toInt < 1536) ∧ (0 ≤ ha.toInt ∧ ha.toInt < 6) ∧ (∃ e1 v1 M1, e = e1 + 1 ∧ Ev none e1 67 0 [some (.ref 104), some (.ref (oI M 109 ha)), some (.int ((256 * ha) + (rI M 108 ((8 * (zI M 137 0)) + d)))), some (.int (rI M 108 ((8 * (zI M 137 0)) + d))), none, none] [] M v1 M1 0 0 ∧ Ev none e 66 112 [some (.ref 104), some (.ref 137), some (.int go), some (.int ha), some (.int be), some (.int le), some (.int d), some (.int (rI M 108 ((8 * (zI M 137 0)) + d))), some (.int ((256 * ha) + (rI M 108 ((8 * (zI M 137 0)) + d)))), c9] (v1.toList ++ []) M1 v M' 0 0)) ∨ (¬ (8 ≤ d) ∧ ¬ ((rI M 108 ((8 * (zI M 137 0)) + d)) = (-1)) ∧ ¬ ((G_7 M (fR M 104 7) (rI M 108 ((8 * (zI M 137 0)) + d))) = 0) ∧ ¬ ((rI M 128 ((256 * ha) + (rI M 108 ((8 * (zI M 137 0)) + d)))) = (-1)) ∧ (0 ≤ ((8 * (zI M 137 0)) + d).toInt ∧ ((8 * (zI M 137 0)) + d).toInt < 2048) ∧ (0 ≤ ((256 * ha) + (rI M 108 ((8 * (zI M 137 0)) + d))).toInt ∧ ((256 * ha) + (rI M 108 ((8 * (zI M 137 0)) + d))).toInt < 1536) ∧ Ev none e 66 112 [some (.ref 104), some (.ref 137), some (.int go), some (.int ha), some (.int be), some (.int le), some (.int d), some (.int (rI M 108 ((8 * (zI M 137 0)) + d))), some (.int ((256 * ha) + (rI M 108 ((8 * (zI M 137 0)) + d)))), c9] [] M v M' 0 0) := by
  have H : Ev none e 66 (if 8 ≤ d then 184 else 36) [some (.ref 104), some (.ref 137), some (.int go), some (.int ha), some (.int be), some (.int le), some (.int d), c7, c8, c9] [] M v M' 0 0 := Ev.back 3 (fun n => rfl) H
  by_cases h1 : 8 ≤ d
  · rw [if_pos h1] at H
    have H : Ev none e 66 186 [some (.ref 104), some (.ref 137), some (.int go), some (.int ha), some (.int be), some (.int le), some (.int d), c7, c8, c9] [.int be] M v M' 0 0 := Ev.back 1 (fun n => rfl) H
    obtain ⟨z1, z2⟩ := Ev.retz rfl rfl H
    exact Or.inl ⟨h1, z1, z2⟩
  · rw [if_neg h1] at H
    have H : Ev none e 66 37 [some (.ref 104), some (.ref 137), some (.int go), some (.int ha), some (.int be), some (.int le), some (.int d), c7, c8, c9] [.ref 104] M v M' 0 0 := Ev.back 1 (fun n => rfl) H
    have H : Ev none e 66 40 [some (.ref 104), some (.ref 137), some (.int go), some (.int ha), some (.int be), some (.int le), some (.int d), c7, c8, c9] [.ref 105] M v M' 0 0 := Ev.back 1 (gs_3 rfl rfl (gf_u hS.1 qa_104 qr_22_0 qu_23 rfl)) H
    have H : Ev none e 66 43 [some (.ref 104), some (.ref 137), some (.int go), some (.int ha), some (.int be), some (.int le), some (.int d), c7, c8, c9] [.ref 108] M v M' 0 0 := Ev.back 1 (gs_3 rfl rfl (gf_u hS.1 qa_105 qr_23_2 qu_26 rfl)) H
    have H : Ev none e 66 46 [some (.ref 104), some (.ref 137), some (.int go), some (.int ha), some (.int be), some (.int le), some (.int d), c7, c8, c9] [.ref 137, .int 8, .ref 108] M v M' 0 0 := Ev.back 2 (fun n => rfl) H
    have H : Ev none e 66 49 [some (.ref 104), some (.ref 137), some (.int go), some (.int ha), some (.int be), some (.int le), some (.int d), c7, c8, c9] [.int (zI M 137 0), .int 8, .ref 108] M v M' 0 0 := Ev.back 1 (gs_3 rfl rfl (gf_i hS.1 qa_137 qi_40_0 rfl)) H
    have H : Ev none e 66 53 [some (.ref 104), some (.ref 137), some (.int go), some (.int ha), some (.int be), some (.int le), some (.int d), c7, c8, c9] [.int ((8 * (zI M 137 0)) + d), .ref 108] M v M' 0 0 := Ev.back 3 (fun n => rfl) H
    obtain ⟨b2, H⟩ := Ev.ial rfl rfl hS.1 qa_108 qw_26 H
    have H : Ev none e 66 54 [some (.ref 104), some (.ref 137), some (.int go), some (.int ha), some (.int be), some (.int le), some (.int d), c7, c8, c9] [.int (rI M 108 ((8 * (zI M 137 0)) + d))] M v M' 0 0 := H
    have H : Ev none e 66 (if (rI M 108 ((8 * (zI M 137 0)) + d)) = (-1) then 178 else 62) [some (.ref 104), some (.ref 137), some (.int go), some (.int ha), some (.int be), some (.int le), some (.int d), some (.int (rI M 108 ((8 * (zI M 137 0)) + d))), c8, c9] [] M v M' 0 0 := Ev.back 4 (fun n => rfl) H
    by_cases h3 : (rI M 108 ((8 * (zI M 137 0)) + d)) = (-1)
    · rw [if_pos h3] at H
      have H : Ev none e 66 29 [some (.ref 104), some (.ref 137), some (.int go), some (.int ha), some (.int be), some (.int le), some (.int (d + 1)), some (.int (rI M 108 ((8 * (zI M 137 0)) + d))), c8, c9] [] M v M' 0 0 := Ev.back 2 (fun n => rfl) H
      have HF := H
      exact Or.inr (Or.inl ⟨h1, h3, b2, HF⟩)
    · rw [if_neg h3] at H
      have H : Ev none e 66 63 [some (.ref 104), some (.ref 137), some (.int go), some (.int ha), some (.int be), some (.int le), some (.int d), some (.int (rI M 108 ((8 * (zI M 137 0)) + d))), c8, c9] [.ref 104] M v M' 0 0 := Ev.back 1 (fun n => rfl) H
      have H : Ev none e 66 66 [some (.ref 104), some (.ref 137), some (.int go), some (.int ha), some (.int be), some (.int le), some (.int d), some (.int (rI M 108 ((8 * (zI M 137 0)) + d))), c8, c9] [.ref (fR M 104 7)] M v M' 0 0 := Ev.back 1 (gs_3 rfl rfl (gf_r hS.1 qa_104 qr_22_7 rfl)) H
      have H : Ev none e 66 68 [some (.ref 104), some (.ref 137), some (.int go), some (.int ha), some (.int be), some (.int le), some (.int d), some (.int (rI M 108 ((8 * (zI M 137 0)) + d))), c8, c9] [.int (rI M 108 ((8 * (zI M 137 0)) + d)), .ref (fR M 104 7)] M v M' 0 0 := Ev.back 1 (fun n => rfl) H
      obtain ⟨e1, rfl⟩ := Ev.dpos rfl rfl H
      obtain ⟨vK4, MK4, K4, H⟩ := Ev.callb (fun n_ => gs_7 rfl rfl (show gCal (.invokevirtual 225) 7 (.int (rI M 108 ((8 * (zI M 137 0)) + d)) :: .ref (fR M 104 7) :: []) M = some (.inr (7, [some (.ref (fR M 104 7)), some (.int (rI M 108 ((8 * (zI M 137 0)) + d)))], [])) from by show @cond (Option ((List Value × Mem) ⊕ (Nat × Lo × List Value))) (true && gRecv M (.ref (fR M 104 7)) 1 && gRoom [] && true) (some (.inr (7, [some (.ref (fR M 104 7)), some (.int (rI M 108 ((8 * (zI M 137 0)) + d)))], []))) none = _; rw [recv_s hS.1 (hS.1.fr qa_104 qr_22_7).2 qo_8]; rfl)) H
      obtain ⟨pK4, qK4⟩ := g_7 hS (hS.1.fr qa_104 qr_22_7).2 K4
      rw [pK4, qK4] at H
      have H : Ev none (e1 + 1) 66 71 [some (.ref 104), some (.ref 137), some (.int go), some (.int ha), some (.int be), some (.int le), some (.int d), some (.int (rI M 108 ((8 * (zI M 137 0)) + d))), c8, c9] [.int (G_7 M (fR M 104 7) (rI M 108 ((8 * (zI M 137 0)) + d)))] M v M' 0 0 := H
      have H : Ev none (e1 + 1) 66 (if (G_7 M (fR M 104 7) (rI M 108 ((8 * (zI M 137 0)) + d))) = 0 then 74 else 77) [some (.ref 104), some (.ref 137), some (.int go), some (.int ha), some (.int be), some (.int le), some (.int d), some (.int (rI M 108 ((8 * (zI M 137 0)) + d))), c8, c9] [] M v M' 0 0 := Ev.back 1 (fun n => rfl) H
      by_cases h5 : (G_7 M (fR M 104 7) (rI M 108 ((8 * (zI M 137 0)) + d))) = 0
      · rw [if_pos h5] at H
        have H : Ev none (e1 + 1) 66 29 [some (.ref 104), some (.ref 137), some (.int go), some (.int ha), some (.int be), some (.int le), some (.int (d + 1)), some (.int (rI M 108 ((8 * (zI M 137 0)) + d))), c8, c9] [] M v M' 0 0 := Ev.back 3 (fun n => rfl) H
        have HF := H
        exact Or.inr (Or.inr (Or.inl ⟨h1, h3, h5, b2, HF⟩))
      · rw [if_neg h5] at H
        have H : Ev none (e1 + 1) 66 88 [some (.ref 104), some (.ref 137), some (.int go), some (.int ha), some (.int be), some (.int le), some (.int d), some (.int (rI M 108 ((8 * (zI M 137 0)) + d))), some (.int ((256 * ha) + (rI M 108 ((8 * (zI M 137 0)) + d)))), c9] [.ref 104] M v M' 0 0 := Ev.back 7 (fun n => rfl) H
        have H : Ev none (e1 + 1) 66 91 [some (.ref 104), some (.ref 137), some (.int go), some (.int ha), some (.int be), some (.int le), some (.int d), some (.int (rI M 108 ((8 * (zI M 137 0)) + d))), some (.int ((256 * ha) + (rI M 108 ((8 * (zI M 137 0)) + d)))), c9] [.ref 128] M v M' 0 0 := Ev.back 1 (gs_3 rfl rfl (gf_u hS.1 qa_104 qr_22_4 qu_37 rfl)) H
        have H : Ev none (e1 + 1) 66 93 [some (.ref 104), some (.ref 137), some (.int go), some (.int ha), some (.int be), some (.int le), some (.int d), some (.int (rI M 108 ((8 * (zI M 137 0)) + d))), some (.int ((256 * ha) + (rI M 108 ((8 * (zI M 137 0)) + d)))), c9] [.int ((256 * ha) + (rI M 108 ((8 * (zI M 137 0)) + d))), .ref 128] M v M' 0 0 := Ev.back 1 (fun n => rfl) H
        obtain ⟨b6, H⟩ := Ev.ial rfl rfl hS.1 qa_128 qw_37 H
        have H : Ev none (e1 + 1) 66 94 [some (.ref 104), some (.ref 137), some (.int go), some (.int ha), some (.int be), some (.int le), some (.int d), some (.int (rI M 108 ((8 * (zI M 137 0)) + d))), some (.int ((256 * ha) + (rI M 108 ((8 * (zI M 137 0)) + d)))), c9] [.int (rI M 128 ((256 * ha) + (rI M 108 ((8 * (zI M 137 0)) + d))))] M v M' 0 0 := H
        have H : Ev none (e1 + 1) 66 (if (rI M 128 ((256 * ha) + (rI M 108 ((8 * (zI M 137 0)) + d)))) = (-1) then 98 else 112) [some (.ref 104), some (.ref 137), some (.int go), some (.int ha), some (.int be), some (.int le), some (.int d), some (.int (rI M 108 ((8 * (zI M 137 0)) + d))), some (.int ((256 * ha) + (rI M 108 ((8 * (zI M 137 0)) + d)))), c9] [] M v M' 0 0 := Ev.back 2 (fun n => rfl) H
        by_cases h7 : (rI M 128 ((256 * ha) + (rI M 108 ((8 * (zI M 137 0)) + d)))) = (-1)
        · rw [if_pos h7] at H
          have H : Ev none (e1 + 1) 66 100 [some (.ref 104), some (.ref 137), some (.int go), some (.int ha), some (.int be), some (.int le), some (.int d), some (.int (rI M 108 ((8 * (zI M 137 0)) + d))), some (.int ((256 * ha) + (rI M 108 ((8 * (zI M 137 0)) + d)))), c9] [.ref 104, .ref 104] M v M' 0 0 := Ev.back 2 (fun n => rfl) H
          have H : Ev none (e1 + 1) 66 103 [some (.ref 104), some (.ref 137), some (.int go), some (.int ha), some (.int be), some (.int le), some (.int d), some (.int (rI M 108 ((8 * (zI M 137 0)) + d))), some (.int ((256 * ha) + (rI M 108 ((8 * (zI M 137 0)) + d)))), c9] [.ref 109, .ref 104] M v M' 0 0 := Ev.back 1 (gs_3 rfl rfl (gf_u hS.1 qa_104 qr_22_1 qu_27 rfl)) H
          have H : Ev none (e1 + 1) 66 104 [some (.ref 104), some (.ref 137), some (.int go), some (.int ha), some (.int be), some (.int le), some (.int d), some (.int (rI M 108 ((8 * (zI M 137 0)) + d))), some (.int ((256 * ha) + (rI M 108 ((8 * (zI M 137 0)) + d)))), c9] [.int ha, .ref 109, .ref 104] M v M' 0 0 := Ev.back 1 (fun n => rfl) H
          obtain ⟨b8, H⟩ := Ev.aal rfl rfl hS.1 qa_109 qz_27 H
          have H : Ev none (e1 + 1) 66 105 [some (.ref 104), some (.ref 137), some (.int go), some (.int ha), some (.int be), some (.int le), some (.int d), some (.int (rI M 108 ((8 * (zI M 137 0)) + d))), some (.int ((256 * ha) + (rI M 108 ((8 * (zI M 137 0)) + d)))), c9] [.ref (oI M 109 ha), .ref 104] M v M' 0 0 := H
          have H : Ev none (e1 + 1) 66 109 [some (.ref 104), some (.ref 137), some (.int go), some (.int ha), some (.int be), some (.int le), some (.int d), some (.int (rI M 108 ((8 * (zI M 137 0)) + d))), some (.int ((256 * ha) + (rI M 108 ((8 * (zI M 137 0)) + d)))), c9] [.int (rI M 108 ((8 * (zI M 137 0)) + d)), .int ((256 * ha) + (rI M 108 ((8 * (zI M 137 0)) + d))), .ref (oI M 109 ha), .ref 104] M v M' 0 0 := Ev.back 2 (fun n => rfl) H
          obtain ⟨vK9, MK9, K9, H⟩ := Ev.callb (fun n_ => gs_7 rfl rfl (show gCal (.invokevirtual 228) 7 (.int (rI M 108 ((8 * (zI M 137 0)) + d)) :: .int ((256 * ha) + (rI M 108 ((8 * (zI M 137 0)) + d))) :: .ref (oI M 109 ha) :: .ref 104 :: []) M = some (.inr (67, [some (.ref 104), some (.ref (oI M 109 ha)), some (.int ((256 * ha) + (rI M 108 ((8 * (zI M 137 0)) + d)))), some (.int (rI M 108 ((8 * (zI M 137 0)) + d))), none, none], [])) from by show @cond (Option ((List Value × Mem) ⊕ (Nat × Lo × List Value))) (true && gRecv M (.ref 104) 7 && gRoom [] && true) (some (.inr (67, [some (.ref 104), some (.ref (oI M 109 ha)), some (.int ((256 * ha) + (rI M 108 ((8 * (zI M 137 0)) + d)))), some (.int (rI M 108 ((8 * (zI M 137 0)) + d))), none, none], []))) none = _; rw [recv_s hS.1 qa_104 qo_22]; rfl)) H
          have K9 : Ev none e1 67 0 [some (.ref 104), some (.ref (oI M 109 ha)), some (.int ((256 * ha) + (rI M 108 ((8 * (zI M 137 0)) + d)))), some (.int (rI M 108 ((8 * (zI M 137 0)) + d))), none, none] [] M vK9 MK9 0 0 := K9
          have HF := H
          exact Or.inr (Or.inr (Or.inr (Or.inl ⟨h1, h3, h5, h7, b2, b6, b8.1, ⟨e1, vK9, MK9, rfl, K9, HF⟩⟩)))
        · rw [if_neg h7] at H
          have HF := H
          exact Or.inr (Or.inr (Or.inr (Or.inr (⟨h1, h3, h5, h7, b2, b6, HF⟩))))
theorem chos_112 {e : Nat} {M M' : Mem} {v : Option Value} {go ha be le d c av : Int32} {c9 : Option Value} (hS : SQ M) (H : Ev none e 66 112 [some (.ref 104), some (.ref 137), some (.int go), some (.int ha), some (.int be), some (.int le), some (.int d), some (.int c), some (.int av), c9] [] M v M' 0 0) : ((rI M 128 av) = 1 ∧ (0 ≤ av.toInt ∧ av.toInt < 1536) ∧ Ev none e 66 29 [some (.ref 104), some (.ref 137), some (.int go), some (.int ha), some (.int be), some (.int le), some (.int (d + 1)), some (.int c), some (.int av), c9] [] M v M' 0 0) ∨ (¬ ((rI M 128 av) = 1) ∧ (0 ≤ av.toInt ∧ av.toInt < 1536) ∧ (0 ≤ ha.toInt ∧ ha.toInt < 6) ∧ (∃ e1 v1 M1, e = e1 + 1 ∧ Ev none e1 68 0 [some (.ref 104), some (.ref 137), some (.int av), some (.int d), some (.int (zI M (oI M 109 ha) 13)), none, none] [] M v1 M1 0 0 ∧ Ev none e 66 154 [some (.ref 104), some (.ref 137), some (.int go), some (.int ha), some (.int be), some (.int le), some (.int d), some (.int c), some (.int av), c9] (v1.toList ++ [.int (G_4 M c go)]) M1 v M' 0 0)) := by
  have H : Ev none e 66 113 [some (.ref 104), some (.ref 137), some (.int go), some (.int ha), some (.int be), some (.int le), some (.int d), some (.int c), some (.int av), c9] [.ref 104] M v M' 0 0 := Ev.back 1 (fun n => rfl) H
  have H : Ev none e 66 116 [some (.ref 104), some (.ref 137), some (.int go), some (.int ha), some (.int be), some (.int le), some (.int d), some (.int c), some (.int av), c9] [.ref 128] M v M' 0 0 := Ev.back 1 (gs_3 rfl rfl (gf_u hS.1 qa_104 qr_22_4 qu_37 rfl)) H
  have H : Ev none e 66 118 [some (.ref 104), some (.ref 137), some (.int go), some (.int ha), some (.int be), some (.int le), some (.int d), some (.int c), some (.int av), c9] [.int av, .ref 128] M v M' 0 0 := Ev.back 1 (fun n => rfl) H
  obtain ⟨b1, H⟩ := Ev.ial rfl rfl hS.1 qa_128 qw_37 H
  have H : Ev none e 66 119 [some (.ref 104), some (.ref 137), some (.int go), some (.int ha), some (.int be), some (.int le), some (.int d), some (.int c), some (.int av), c9] [.int (rI M 128 av)] M v M' 0 0 := H
  have H : Ev none e 66 (if (rI M 128 av) = 1 then 123 else 126) [some (.ref 104), some (.ref 137), some (.int go), some (.int ha), some (.int be), some (.int le), some (.int d), some (.int c), some (.int av), c9] [] M v M' 0 0 := Ev.back 2 (fun n => rfl) H
  by_cases h2 : (rI M 128 av) = 1
  · rw [if_pos h2] at H
    have H : Ev none e 66 29 [some (.ref 104), some (.ref 137), some (.int go), some (.int ha), some (.int be), some (.int le), some (.int (d + 1)), some (.int c), some (.int av), c9] [] M v M' 0 0 := Ev.back 3 (fun n => rfl) H
    have HF := H
    exact Or.inl ⟨h2, b1, HF⟩
  · rw [if_neg h2] at H
    have H : Ev none e 66 127 [some (.ref 104), some (.ref 137), some (.int go), some (.int ha), some (.int be), some (.int le), some (.int d), some (.int c), some (.int av), c9] [.ref 104] M v M' 0 0 := Ev.back 1 (fun n => rfl) H
    have H : Ev none e 66 130 [some (.ref 104), some (.ref 137), some (.int go), some (.int ha), some (.int be), some (.int le), some (.int d), some (.int c), some (.int av), c9] [.ref 105] M v M' 0 0 := Ev.back 1 (gs_3 rfl rfl (gf_u hS.1 qa_104 qr_22_0 qu_23 rfl)) H
    have H : Ev none e 66 133 [some (.ref 104), some (.ref 137), some (.int go), some (.int ha), some (.int be), some (.int le), some (.int d), some (.int c), some (.int av), c9] [.int go, .int c, .ref 105] M v M' 0 0 := Ev.back 2 (fun n => rfl) H
    obtain ⟨e1, rfl⟩ := Ev.dpos rfl rfl H
    obtain ⟨vK3, MK3, K3, H⟩ := Ev.callb (fun n_ => gs_7 rfl rfl (show gCal (.invokevirtual 232) 7 (.int go :: .int c :: .ref 105 :: []) M = some (.inr (4, [some (.ref 105), some (.int c), some (.int go), none, none], [])) from by show @cond (Option ((List Value × Mem) ⊕ (Nat × Lo × List Value))) (true && gRecv M (.ref 105) 0 && gRoom [] && true) (some (.inr (4, [some (.ref 105), some (.int c), some (.int go), none, none], []))) none = _; rw [recv_s hS.1 qa_105 qo_23]; rfl)) H
    obtain ⟨pK3, qK3⟩ := g_4 hS K3
    rw [pK3, qK3] at H
    have H : Ev none (e1 + 1) 66 136 [some (.ref 104), some (.ref 137), some (.int go), some (.int ha), some (.int be), some (.int le), some (.int d), some (.int c), some (.int av), c9] [.int (G_4 M c go)] M v M' 0 0 := H
    have H : Ev none (e1 + 1) 66 143 [some (.ref 104), some (.ref 137), some (.int go), some (.int ha), some (.int be), some (.int le), some (.int d), some (.int c), some (.int av), c9] [.ref 104, .int d, .int av, .ref 137, .ref 104, .int (G_4 M c go)] M v M' 0 0 := Ev.back 5 (fun n => rfl) H
    have H : Ev none (e1 + 1) 66 146 [some (.ref 104), some (.ref 137), some (.int go), some (.int ha), some (.int be), some (.int le), some (.int d), some (.int c), some (.int av), c9] [.ref 109, .int d, .int av, .ref 137, .ref 104, .int (G_4 M c go)] M v M' 0 0 := Ev.back 1 (gs_3 rfl rfl (gf_u hS.1 qa_104 qr_22_1 qu_27 rfl)) H
    have H : Ev none (e1 + 1) 66 147 [some (.ref 104), some (.ref 137), some (.int go), some (.int ha), some (.int be), some (.int le), some (.int d), some (.int c), some (.int av), c9] [.int ha, .ref 109, .int d, .int av, .ref 137, .ref 104, .int (G_4 M c go)] M v M' 0 0 := Ev.back 1 (fun n => rfl) H
    obtain ⟨b4, H⟩ := Ev.aal rfl rfl hS.1 qa_109 qz_27 H
    have H : Ev none (e1 + 1) 66 148 [some (.ref 104), some (.ref 137), some (.int go), some (.int ha), some (.int be), some (.int le), some (.int d), some (.int c), some (.int av), c9] [.ref (oI M 109 ha), .int d, .int av, .ref 137, .ref 104, .int (G_4 M c go)] M v M' 0 0 := H
    have H : Ev none (e1 + 1) 66 151 [some (.ref 104), some (.ref 137), some (.int go), some (.int ha), some (.int be), some (.int le), some (.int d), some (.int c), some (.int av), c9] [.int (zI M (oI M 109 ha) 13), .int d, .int av, .ref 137, .ref 104, .int (G_4 M c go)] M v M' 0 0 := Ev.back 1 (gs_3 rfl rfl (gf_i hS.1 b4.2 qi_28_13 rfl)) H
    obtain ⟨vK5, MK5, K5, H⟩ := Ev.callb (fun n_ => gs_7 rfl rfl (show gCal (.invokevirtual 238) 7 (.int (zI M (oI M 109 ha) 13) :: .int d :: .int av :: .ref 137 :: .ref 104 :: [.int (G_4 M c go)]) M = some (.inr (68, [some (.ref 104), some (.ref 137), some (.int av), some (.int d), some (.int (zI M (oI M 109 ha) 13)), none, none], [.int (G_4 M c go)])) from by show @cond (Option ((List Value × Mem) ⊕ (Nat × Lo × List Value))) (true && gRecv M (.ref 104) 7 && gRoom [.int (G_4 M c go)] && true) (some (.inr (68, [some (.ref 104), some (.ref 137), some (.int av), some (.int d), some (.int (zI M (oI M 109 ha) 13)), none, none], [.int (G_4 M c go)]))) none = _; rw [recv_s hS.1 qa_104 qo_22]; rfl)) H
    have K5 : Ev none e1 68 0 [some (.ref 104), some (.ref 137), some (.int av), some (.int d), some (.int (zI M (oI M 109 ha) 13)), none, none] [] M vK5 MK5 0 0 := K5
    have HF := H
    exact Or.inr (⟨h2, b1, b4.1, ⟨e1, vK5, MK5, rfl, K5, HF⟩⟩)
theorem chos_154 {e : Nat} {M M' : Mem} {v : Option Value} {go ha be le d c av y ds : Int32} {c9 : Option Value} (hS : SQ M) (H : Ev none e 66 154 [some (.ref 104), some (.ref 137), some (.int go), some (.int ha), some (.int be), some (.int le), some (.int d), some (.int c), some (.int av), c9] [.int y, .int ds] M v M' 0 0) : (be = (-1) ∧ Ev none e 66 29 [some (.ref 104), some (.ref 137), some (.int go), some (.int ha), some (.int d), some (.int (ds + y)), some (.int (d + 1)), some (.int c), some (.int av), some (.int (ds + y))] [] M v M' 0 0) ∨ (¬ (be = (-1)) ∧ le ≤ (ds + y) ∧ Ev none e 66 29 [some (.ref 104), some (.ref 137), some (.int go), some (.int ha), some (.int be), some (.int le), some (.int (d + 1)), some (.int c), some (.int av), some (.int (ds + y))] [] M v M' 0 0) ∨ (¬ (be = (-1)) ∧ ¬ (le ≤ (ds + y)) ∧ Ev none e 66 29 [some (.ref 104), some (.ref 137), some (.int go), some (.int ha), some (.int d), some (.int (ds + y)), some (.int (d + 1)), some (.int c), some (.int av), some (.int (ds + y))] [] M v M' 0 0) := by
  have H : Ev none e 66 (if be = (-1) then 170 else 163) [some (.ref 104), some (.ref 137), some (.int go), some (.int ha), some (.int be), some (.int le), some (.int d), some (.int c), some (.int av), some (.int (ds + y))] [] M v M' 0 0 := Ev.back 5 (fun n => rfl) H
  by_cases h1 : be = (-1)
  · rw [if_pos h1] at H
    have H : Ev none e 66 29 [some (.ref 104), some (.ref 137), some (.int go), some (.int ha), some (.int d), some (.int (ds + y)), some (.int (d + 1)), some (.int c), some (.int av), some (.int (ds + y))] [] M v M' 0 0 := Ev.back 6 (fun n => rfl) H
    have HF := H
    exact Or.inl ⟨h1, HF⟩
  · rw [if_neg h1] at H
    have H : Ev none e 66 (if le ≤ (ds + y) then 178 else 170) [some (.ref 104), some (.ref 137), some (.int go), some (.int ha), some (.int be), some (.int le), some (.int d), some (.int c), some (.int av), some (.int (ds + y))] [] M v M' 0 0 := Ev.back 3 (fun n => rfl) H
    by_cases h2 : le ≤ (ds + y)
    · rw [if_pos h2] at H
      have H : Ev none e 66 29 [some (.ref 104), some (.ref 137), some (.int go), some (.int ha), some (.int be), some (.int le), some (.int (d + 1)), some (.int c), some (.int av), some (.int (ds + y))] [] M v M' 0 0 := Ev.back 2 (fun n => rfl) H
      have HF := H
      exact Or.inr (Or.inl ⟨h1, h2, HF⟩)
    · rw [if_neg h2] at H
      have H : Ev none e 66 29 [some (.ref 104), some (.ref 137), some (.int go), some (.int ha), some (.int d), some (.int (ds + y)), some (.int (d + 1)), some (.int c), some (.int av), some (.int (ds + y))] [] M v M' 0 0 := Ev.back 6 (fun n => rfl) H
      have HF := H
      exact Or.inr (Or.inr (⟨h1, h2, HF⟩))
/-! THE CLASS'S walking: begin, go, sweep, endWeek, shape: pieces (made by gwal2.py) -/
noncomputable def X_73w (M : Mem) (b : Nat) (av : Int32) (ow : Int32) : Mem := (wF (wF (wF (wF (wF M b 0 av) b 1 ow) b 2 0) b 3 (-1)) b 4 (-1))
theorem g_73w {e : Nat} {M M' : Mem} {v : Option Value} {av ow : Int32} {b : Nat} (hS : SQ M) (a_b : gNth sT b = some 21) (H : Ev none e 73 0 [some (.ref b), some (.int av), some (.int ow)] [] M v M' 0 0) : v = none ∧ M' = X_73w M b av ow := by
  unfold X_73w
  have H : Ev none e 73 2 [some (.ref b), some (.int av), some (.int ow)] [.int av, .ref b] M v M' 0 0 := Ev.back 2 (fun n => rfl) H
  obtain ⟨N2, eN2⟩ : ∃ N, N = (wF M b 0 av) := ⟨_, rfl⟩
  have hN2 : SQ N2 := by rw [eN2]; exact hS.kf
  have H : Ev none e 73 5 [some (.ref b), some (.int av), some (.int ow)] [] N2 v M' 0 0 := by rw [eN2]; exact Ev.pfi rfl rfl rfl hS.1 a_b qi_21_0 H
  have H : Ev none e 73 7 [some (.ref b), some (.int av), some (.int ow)] [.int ow, .ref b] N2 v M' 0 0 := Ev.back 2 (fun n => rfl) H
  obtain ⟨N4, eN4⟩ : ∃ N, N = (wF N2 b 1 ow) := ⟨_, rfl⟩
  have hN4 : SQ N4 := by rw [eN4]; exact hN2.kf
  have H : Ev none e 73 10 [some (.ref b), some (.int av), some (.int ow)] [] N4 v M' 0 0 := by rw [eN4]; exact Ev.pfi rfl rfl rfl hN2.1 a_b qi_21_1 H
  have H : Ev none e 73 12 [some (.ref b), some (.int av), some (.int ow)] [.int 0, .ref b] N4 v M' 0 0 := Ev.back 2 (fun n => rfl) H
  obtain ⟨N6, eN6⟩ : ∃ N, N = (wF N4 b 2 0) := ⟨_, rfl⟩
  have hN6 : SQ N6 := by rw [eN6]; exact hN4.kf
  have H : Ev none e 73 15 [some (.ref b), some (.int av), some (.int ow)] [] N6 v M' 0 0 := by rw [eN6]; exact Ev.pfi rfl rfl rfl hN4.1 a_b qi_21_2 H
  have H : Ev none e 73 17 [some (.ref b), some (.int av), some (.int ow)] [.int (-1), .ref b] N6 v M' 0 0 := Ev.back 2 (fun n => rfl) H
  obtain ⟨N8, eN8⟩ : ∃ N, N = (wF N6 b 3 (-1)) := ⟨_, rfl⟩
  have hN8 : SQ N8 := by rw [eN8]; exact hN6.kf
  have H : Ev none e 73 20 [some (.ref b), some (.int av), some (.int ow)] [] N8 v M' 0 0 := by rw [eN8]; exact Ev.pfi rfl rfl rfl hN6.1 a_b qi_21_3 H
  have H : Ev none e 73 22 [some (.ref b), some (.int av), some (.int ow)] [.int (-1), .ref b] N8 v M' 0 0 := Ev.back 2 (fun n => rfl) H
  obtain ⟨N10, eN10⟩ : ∃ N, N = (wF N8 b 4 (-1)) := ⟨_, rfl⟩
  have hN10 : SQ N10 := by rw [eN10]; exact hN8.kf
  have H : Ev none e 73 25 [some (.ref b), some (.int av), some (.int ow)] [] N10 v M' 0 0 := by rw [eN10]; exact Ev.pfi rfl rfl rfl hN8.1 a_b qi_21_4 H
  obtain ⟨p1, p2⟩ := Ev.retb (fun n => rfl) H
  subst eN2 eN4 eN6 eN8 eN10
  exact ⟨p1, p2⟩
theorem X_73w_sx {M : Mem} {av ow : Int32} {b : Nat} (hS : SQ M) (a_b : gNth sT b = some 21) : SQ (X_73w M b av ow) := by
  unfold X_73w
  exact ((((hS.kf).kf).kf).kf).kf
noncomputable def X_74w (M : Mem) (b : Nat) (to : Int32) (bw : Int32) : Mem := (wF (wF (wF M b 3 (zI M b 0)) b 0 to) b 4 bw)
theorem g_74w {e : Nat} {M M' : Mem} {v : Option Value} {to bw : Int32} {b : Nat} (hS : SQ M) (a_b : gNth sT b = some 21) (H : Ev none e 74 0 [some (.ref b), some (.int to), some (.int bw)] [] M v M' 0 0) : v = none ∧ M' = X_74w M b to bw := by
  unfold X_74w
  have H : Ev none e 74 2 [some (.ref b), some (.int to), some (.int bw)] [.ref b, .ref b] M v M' 0 0 := Ev.back 2 (fun n => rfl) H
  have H : Ev none e 74 5 [some (.ref b), some (.int to), some (.int bw)] [.int (zI M b 0), .ref b] M v M' 0 0 := Ev.back 1 (gs_3 rfl rfl (gf_i hS.1 a_b qi_21_0 rfl)) H
  obtain ⟨N2, eN2⟩ : ∃ N, N = (wF M b 3 (zI M b 0)) := ⟨_, rfl⟩
  have hN2 : SQ N2 := by rw [eN2]; exact hS.kf
  have H : Ev none e 74 8 [some (.ref b), some (.int to), some (.int bw)] [] N2 v M' 0 0 := by rw [eN2]; exact Ev.pfi rfl rfl rfl hS.1 a_b qi_21_3 H
  have H : Ev none e 74 10 [some (.ref b), some (.int to), some (.int bw)] [.int to, .ref b] N2 v M' 0 0 := Ev.back 2 (fun n => rfl) H
  obtain ⟨N4, eN4⟩ : ∃ N, N = (wF N2 b 0 to) := ⟨_, rfl⟩
  have hN4 : SQ N4 := by rw [eN4]; exact hN2.kf
  have H : Ev none e 74 13 [some (.ref b), some (.int to), some (.int bw)] [] N4 v M' 0 0 := by rw [eN4]; exact Ev.pfi rfl rfl rfl hN2.1 a_b qi_21_0 H
  have H : Ev none e 74 15 [some (.ref b), some (.int to), some (.int bw)] [.int bw, .ref b] N4 v M' 0 0 := Ev.back 2 (fun n => rfl) H
  obtain ⟨N6, eN6⟩ : ∃ N, N = (wF N4 b 4 bw) := ⟨_, rfl⟩
  have hN6 : SQ N6 := by rw [eN6]; exact hN4.kf
  have H : Ev none e 74 18 [some (.ref b), some (.int to), some (.int bw)] [] N6 v M' 0 0 := by rw [eN6]; exact Ev.pfi rfl rfl rfl hN4.1 a_b qi_21_4 H
  obtain ⟨p1, p2⟩ := Ev.retb (fun n => rfl) H
  subst eN2 eN4 eN6
  exact ⟨p1, p2⟩
theorem X_74w_sx {M : Mem} {to bw : Int32} {b : Nat} (hS : SQ M) (a_b : gNth sT b = some 21) : SQ (X_74w M b to bw) := by
  unfold X_74w
  exact ((hS.kf).kf).kf
noncomputable def G_78 (M : Mem) (x : Nat) (ti : Int32) : Int32 := if (zI M x 5) = 0 then 0 else (if (zI M x 3) ≤ 0 then 0 else (if ti < (zI M x 4) then 0 else (if ((ti - (zI M x 4)) - (ti - (zI M x 4)) / (zI M x 3) * (zI M x 3)) = 0 then 1 else 0)))
theorem g_78 {e : Nat} {M M' : Mem} {v : Option Value} {ti : Int32} {x : Nat} (hS : SQ M) (a_x : gNth sT x = some 20) (H : Ev none e 78 0 [some (.ref x), some (.int ti)] [] M v M' 0 0) : v = some (.int (G_78 M x ti)) ∧ M' = M := by
  unfold G_78
  have H : Ev none e 78 1 [some (.ref x), some (.int ti)] [.ref x] M v M' 0 0 := Ev.back 1 (fun n => rfl) H
  have H : Ev none e 78 4 [some (.ref x), some (.int ti)] [.int (zI M x 5)] M v M' 0 0 := Ev.back 1 (gs_3 rfl rfl (gf_i hS.1 a_x qi_20_5 rfl)) H
  have H : Ev none e 78 (if (zI M x 5) = 0 then 40 else 7) [some (.ref x), some (.int ti)] [] M v M' 0 0 := Ev.back 1 (fun n => rfl) H
  by_cases h1 : (zI M x 5) = 0
  · rw [if_pos h1] at H
    have H : Ev none e 78 41 [some (.ref x), some (.int ti)] [.int 0] M v M' 0 0 := Ev.back 1 (fun n => rfl) H
    obtain ⟨p1, p2⟩ := Ev.retz rfl rfl H
    exact ⟨by rw [if_pos h1]; exact p1, p2⟩
  · rw [if_neg h1] at H
    have H : Ev none e 78 8 [some (.ref x), some (.int ti)] [.ref x] M v M' 0 0 := Ev.back 1 (fun n => rfl) H
    have H : Ev none e 78 11 [some (.ref x), some (.int ti)] [.int (zI M x 3)] M v M' 0 0 := Ev.back 1 (gs_3 rfl rfl (gf_i hS.1 a_x qi_20_3 rfl)) H
    have H : Ev none e 78 (if (zI M x 3) ≤ 0 then 40 else 14) [some (.ref x), some (.int ti)] [] M v M' 0 0 := Ev.back 1 (fun n => rfl) H
    by_cases h2 : (zI M x 3) ≤ 0
    · rw [if_pos h2] at H
      have H : Ev none e 78 41 [some (.ref x), some (.int ti)] [.int 0] M v M' 0 0 := Ev.back 1 (fun n => rfl) H
      obtain ⟨p1, p2⟩ := Ev.retz rfl rfl H
      exact ⟨by rw [if_neg h1, if_pos h2]; exact p1, p2⟩
    · rw [if_neg h2] at H
      have H : Ev none e 78 16 [some (.ref x), some (.int ti)] [.ref x, .int ti] M v M' 0 0 := Ev.back 2 (fun n => rfl) H
      have H : Ev none e 78 19 [some (.ref x), some (.int ti)] [.int (zI M x 4), .int ti] M v M' 0 0 := Ev.back 1 (gs_3 rfl rfl (gf_i hS.1 a_x qi_20_4 rfl)) H
      have H : Ev none e 78 (if ti < (zI M x 4) then 40 else 22) [some (.ref x), some (.int ti)] [] M v M' 0 0 := Ev.back 1 (fun n => rfl) H
      by_cases h3 : ti < (zI M x 4)
      · rw [if_pos h3] at H
        have H : Ev none e 78 41 [some (.ref x), some (.int ti)] [.int 0] M v M' 0 0 := Ev.back 1 (fun n => rfl) H
        obtain ⟨p1, p2⟩ := Ev.retz rfl rfl H
        exact ⟨by rw [if_neg h1, if_neg h2, if_pos h3]; exact p1, p2⟩
      · rw [if_neg h3] at H
        have H : Ev none e 78 24 [some (.ref x), some (.int ti)] [.ref x, .int ti] M v M' 0 0 := Ev.back 2 (fun n => rfl) H
        have H : Ev none e 78 27 [some (.ref x), some (.int ti)] [.int (zI M x 4), .int ti] M v M' 0 0 := Ev.back 1 (gs_3 rfl rfl (gf_i hS.1 a_x qi_20_4 rfl)) H
        have H : Ev none e 78 29 [some (.ref x), some (.int ti)] [.ref x, .int (ti - (zI M x 4))] M v M' 0 0 := Ev.back 2 (fun n => rfl) H
        have H : Ev none e 78 32 [some (.ref x), some (.int ti)] [.int (zI M x 3), .int (ti - (zI M x 4))] M v M' 0 0 := Ev.back 1 (gs_3 rfl rfl (gf_i hS.1 a_x qi_20_3 rfl)) H
        obtain ⟨nz4, H⟩ := rm_i H rfl rfl
        have H : Ev none e 78 33 [some (.ref x), some (.int ti)] [.int ((ti - (zI M x 4)) - (ti - (zI M x 4)) / (zI M x 3) * (zI M x 3))] M v M' 0 0 := H
        have H : Ev none e 78 (if ((ti - (zI M x 4)) - (ti - (zI M x 4)) / (zI M x 3) * (zI M x 3)) = 0 then 36 else 40) [some (.ref x), some (.int ti)] [] M v M' 0 0 := Ev.back 1 (fun n => rfl) H
        by_cases h5 : ((ti - (zI M x 4)) - (ti - (zI M x 4)) / (zI M x 3) * (zI M x 3)) = 0
        · rw [if_pos h5] at H
          have H : Ev none e 78 41 [some (.ref x), some (.int ti)] [.int 1] M v M' 0 0 := Ev.back 2 (fun n => rfl) H
          obtain ⟨p1, p2⟩ := Ev.retz rfl rfl H
          exact ⟨by rw [if_neg h1, if_neg h2, if_neg h3, if_pos h5]; exact p1, p2⟩
        · rw [if_neg h5] at H
          have H : Ev none e 78 41 [some (.ref x), some (.int ti)] [.int 0] M v M' 0 0 := Ev.back 1 (fun n => rfl) H
          obtain ⟨p1, p2⟩ := Ev.retz rfl rfl H
          exact ⟨by rw [if_neg h1, if_neg h2, if_neg h3, if_neg h5]; exact p1, p2⟩
theorem bgn_0 {e : Nat} {M M' : Mem} {v : Option Value} (hS : SQ M) (H : Ev none e 59 0 [some (.ref 104), none, none, none] [] M v M' 0 0) : Ev none e 59 2 [some (.ref 104), some (.int 0), none, none] [] M v M' 0 0 := by
  have H : Ev none e 59 2 [some (.ref 104), some (.int 0), none, none] [] M v M' 0 0 := Ev.back 2 (fun n => rfl) H
  have HF := H
  exact HF
theorem bgn_2 {e : Nat} {M M' : Mem} {v : Option Value} {k : Int32} {c2 c3 : Option Value} (hS : SQ M) (H : Ev none e 59 2 [some (.ref 104), some (.int k), c2, c3] [] M v M' 0 0) : ((zI M (fR M 104 7) 13) ≤ k ∧ v = none ∧ M' = M) ∨ (¬ ((zI M (fR M 104 7) 13) ≤ k) ∧ (G_78 M (oI M (fR M 104 7 + 10) k) (zI M (fR M 104 7) 16)) = 0 ∧ (0 ≤ k.toInt ∧ k.toInt < 24) ∧ Ev none e 59 2 [some (.ref 104), some (.int (k + 1)), some (.ref (oI M (fR M 104 7 + 10) k)), c3] [] M v M' 0 0) ∨ (¬ ((zI M (fR M 104 7) 13) ≤ k) ∧ ¬ ((G_78 M (oI M (fR M 104 7 + 10) k) (zI M (fR M 104 7) 16)) = 0) ∧ (zI M (fR M 104 7) 15) < 60 ∧ (0 ≤ k.toInt ∧ k.toInt < 24) ∧ (0 ≤ (zI M (oI M (fR M 104 7 + 10) k) 0).toInt ∧ (zI M (oI M (fR M 104 7 + 10) k) 0).toInt < 9) ∧ (0 ≤ (zI M (fR M 104 7) 15).toInt ∧ (zI M (fR M 104 7) 15).toInt < 60) ∧ (∃ e1 v1 M1, e = e1 + 1 ∧ Ev none e1 73 0 [some (.ref (oI M (fR M 104 7 + 11) (zI M (fR M 104 7) 15))), some (.int (rI M (fR M 104 7 + 9) (zI M (oI M (fR M 104 7 + 10) k) 0))), some (.int k)] [] M v1 M1 0 0 ∧ Ev none e 59 101 [some (.ref 104), some (.int k), some (.ref (oI M (fR M 104 7 + 10) k)), some (.int (rI M (fR M 104 7 + 9) (zI M (oI M (fR M 104 7 + 10) k) 0)))] (v1.toList ++ []) M1 v M' 0 0)) ∨ (¬ ((zI M (fR M 104 7) 13) ≤ k) ∧ ¬ ((G_78 M (oI M (fR M 104 7 + 10) k) (zI M (fR M 104 7) 16)) = 0) ∧ ¬ ((zI M (fR M 104 7) 15) < 60) ∧ (0 ≤ k.toInt ∧ k.toInt < 24) ∧ Ev none e 59 2 [some (.ref 104), some (.int (k + 1)), some (.ref (oI M (fR M 104 7 + 10) k)), c3] [] (wF M (fR M 104 7) 19 ((zI M (fR M 104 7) 19) + 1)) v M' 0 0) := by
  have H : Ev none e 59 4 [some (.ref 104), some (.int k), c2, c3] [.ref 104, .int k] M v M' 0 0 := Ev.back 2 (fun n => rfl) H
  have H : Ev none e 59 7 [some (.ref 104), some (.int k), c2, c3] [.ref (fR M 104 7), .int k] M v M' 0 0 := Ev.back 1 (gs_3 rfl rfl (gf_r hS.1 qa_104 qr_22_7 rfl)) H
  have H : Ev none e 59 10 [some (.ref 104), some (.int k), c2, c3] [.int (zI M (fR M 104 7) 13), .int k] M v M' 0 0 := Ev.back 1 (gs_3 rfl rfl (gf_i hS.1 (hS.1.fr qa_104 qr_22_7).2 qi_8_13 rfl)) H
  have H : Ev none e 59 (if (zI M (fR M 104 7) 13) ≤ k then 133 else 13) [some (.ref 104), some (.int k), c2, c3] [] M v M' 0 0 := Ev.back 1 (fun n => rfl) H
  by_cases h1 : (zI M (fR M 104 7) 13) ≤ k
  · rw [if_pos h1] at H
    obtain ⟨z1, z2⟩ := Ev.retb (fun n => rfl) H
    exact Or.inl ⟨h1, z1, z2⟩
  · rw [if_neg h1] at H
    have H : Ev none e 59 14 [some (.ref 104), some (.int k), c2, c3] [.ref 104] M v M' 0 0 := Ev.back 1 (fun n => rfl) H
    have H : Ev none e 59 17 [some (.ref 104), some (.int k), c2, c3] [.ref (fR M 104 7)] M v M' 0 0 := Ev.back 1 (gs_3 rfl rfl (gf_r hS.1 qa_104 qr_22_7 rfl)) H
    have H : Ev none e 59 20 [some (.ref 104), some (.int k), c2, c3] [.ref (fR M 104 7 + 10)] M v M' 0 0 := Ev.back 1 (gs_3 rfl rfl (gf_x hS.1 (hS.1.fr qa_104 qr_22_7).2 qo_8 (fx_l12 hS (hS.1.fr qa_104 qr_22_7).2) rfl)) H
    have H : Ev none e 59 21 [some (.ref 104), some (.int k), c2, c3] [.int k, .ref (fR M 104 7 + 10)] M v M' 0 0 := Ev.back 1 (fun n => rfl) H
    obtain ⟨b2, H⟩ := Ev.aal rfl rfl hS.1 (fx_h12 (hS.1.fr qa_104 qr_22_7).2) qz_18 H
    have H : Ev none e 59 22 [some (.ref 104), some (.int k), c2, c3] [.ref (oI M (fR M 104 7 + 10) k)] M v M' 0 0 := H
    have H : Ev none e 59 25 [some (.ref 104), some (.int k), some (.ref (oI M (fR M 104 7 + 10) k)), c3] [.ref 104, .ref (oI M (fR M 104 7 + 10) k)] M v M' 0 0 := Ev.back 3 (fun n => rfl) H
    have H : Ev none e 59 28 [some (.ref 104), some (.int k), some (.ref (oI M (fR M 104 7 + 10) k)), c3] [.ref (fR M 104 7), .ref (oI M (fR M 104 7 + 10) k)] M v M' 0 0 := Ev.back 1 (gs_3 rfl rfl (gf_r hS.1 qa_104 qr_22_7 rfl)) H
    have H : Ev none e 59 31 [some (.ref 104), some (.int k), some (.ref (oI M (fR M 104 7 + 10) k)), c3] [.int (zI M (fR M 104 7) 16), .ref (oI M (fR M 104 7 + 10) k)] M v M' 0 0 := Ev.back 1 (gs_3 rfl rfl (gf_i hS.1 (hS.1.fr qa_104 qr_22_7).2 qi_8_16 rfl)) H
    obtain ⟨e1, rfl⟩ := Ev.dpos rfl rfl H
    obtain ⟨vK3, MK3, K3, H⟩ := Ev.callb (fun n_ => gs_7 rfl rfl (show gCal (.invokevirtual 164) 7 (.int (zI M (fR M 104 7) 16) :: .ref (oI M (fR M 104 7 + 10) k) :: []) M = some (.inr (78, [some (.ref (oI M (fR M 104 7 + 10) k)), some (.int (zI M (fR M 104 7) 16))], [])) from by show @cond (Option ((List Value × Mem) ⊕ (Nat × Lo × List Value))) (true && gRecv M (.ref (oI M (fR M 104 7 + 10) k)) 9 && gRoom [] && true) (some (.inr (78, [some (.ref (oI M (fR M 104 7 + 10) k)), some (.int (zI M (fR M 104 7) 16))], []))) none = _; rw [recv_s hS.1 b2.2 qo_20]; rfl)) H
    obtain ⟨pK3, qK3⟩ := g_78 hS b2.2 K3
    rw [pK3, qK3] at H
    have H : Ev none (e1 + 1) 59 34 [some (.ref 104), some (.int k), some (.ref (oI M (fR M 104 7 + 10) k)), c3] [.int (G_78 M (oI M (fR M 104 7 + 10) k) (zI M (fR M 104 7) 16))] M v M' 0 0 := H
    have H : Ev none (e1 + 1) 59 (if (G_78 M (oI M (fR M 104 7 + 10) k) (zI M (fR M 104 7) 16)) = 0 then 37 else 40) [some (.ref 104), some (.int k), some (.ref (oI M (fR M 104 7 + 10) k)), c3] [] M v M' 0 0 := Ev.back 1 (fun n => rfl) H
    by_cases h4 : (G_78 M (oI M (fR M 104 7 + 10) k) (zI M (fR M 104 7) 16)) = 0
    · rw [if_pos h4] at H
      have H : Ev none (e1 + 1) 59 2 [some (.ref 104), some (.int (k + 1)), some (.ref (oI M (fR M 104 7 + 10) k)), c3] [] M v M' 0 0 := Ev.back 3 (fun n => rfl) H
      have HF := H
      exact Or.inr (Or.inl ⟨h1, h4, b2.1, HF⟩)
    · rw [if_neg h4] at H
      have H : Ev none (e1 + 1) 59 41 [some (.ref 104), some (.int k), some (.ref (oI M (fR M 104 7 + 10) k)), c3] [.ref 104] M v M' 0 0 := Ev.back 1 (fun n => rfl) H
      have H : Ev none (e1 + 1) 59 44 [some (.ref 104), some (.int k), some (.ref (oI M (fR M 104 7 + 10) k)), c3] [.ref (fR M 104 7)] M v M' 0 0 := Ev.back 1 (gs_3 rfl rfl (gf_r hS.1 qa_104 qr_22_7 rfl)) H
      have H : Ev none (e1 + 1) 59 47 [some (.ref 104), some (.int k), some (.ref (oI M (fR M 104 7 + 10) k)), c3] [.int (zI M (fR M 104 7) 15)] M v M' 0 0 := Ev.back 1 (gs_3 rfl rfl (gf_i hS.1 (hS.1.fr qa_104 qr_22_7).2 qi_8_15 rfl)) H
      have H : Ev none (e1 + 1) 59 (if (zI M (fR M 104 7) 15) < 60 then 68 else 52) [some (.ref 104), some (.int k), some (.ref (oI M (fR M 104 7 + 10) k)), c3] [] M v M' 0 0 := Ev.back 2 (fun n => rfl) H
      by_cases h5 : (zI M (fR M 104 7) 15) < 60
      · rw [if_pos h5] at H
        have H : Ev none (e1 + 1) 59 69 [some (.ref 104), some (.int k), some (.ref (oI M (fR M 104 7 + 10) k)), c3] [.ref 104] M v M' 0 0 := Ev.back 1 (fun n => rfl) H
        have H : Ev none (e1 + 1) 59 72 [some (.ref 104), some (.int k), some (.ref (oI M (fR M 104 7 + 10) k)), c3] [.ref (fR M 104 7)] M v M' 0 0 := Ev.back 1 (gs_3 rfl rfl (gf_r hS.1 qa_104 qr_22_7 rfl)) H
        have H : Ev none (e1 + 1) 59 75 [some (.ref 104), some (.int k), some (.ref (oI M (fR M 104 7 + 10) k)), c3] [.ref (fR M 104 7 + 9)] M v M' 0 0 := Ev.back 1 (gs_3 rfl rfl (gf_x hS.1 (hS.1.fr qa_104 qr_22_7).2 qo_8 (fx_l10 hS (hS.1.fr qa_104 qr_22_7).2) rfl)) H
        have H : Ev none (e1 + 1) 59 76 [some (.ref 104), some (.int k), some (.ref (oI M (fR M 104 7 + 10) k)), c3] [.ref (oI M (fR M 104 7 + 10) k), .ref (fR M 104 7 + 9)] M v M' 0 0 := Ev.back 1 (fun n => rfl) H
        have H : Ev none (e1 + 1) 59 79 [some (.ref 104), some (.int k), some (.ref (oI M (fR M 104 7 + 10) k)), c3] [.int (zI M (oI M (fR M 104 7 + 10) k) 0), .ref (fR M 104 7 + 9)] M v M' 0 0 := Ev.back 1 (gs_3 rfl rfl (gf_i hS.1 b2.2 qi_20_0 rfl)) H
        obtain ⟨b6, H⟩ := Ev.ial rfl rfl hS.1 (fx_h10 (hS.1.fr qa_104 qr_22_7).2) qw_17 H
        have H : Ev none (e1 + 1) 59 80 [some (.ref 104), some (.int k), some (.ref (oI M (fR M 104 7 + 10) k)), c3] [.int (rI M (fR M 104 7 + 9) (zI M (oI M (fR M 104 7 + 10) k) 0))] M v M' 0 0 := H
        have H : Ev none (e1 + 1) 59 82 [some (.ref 104), some (.int k), some (.ref (oI M (fR M 104 7 + 10) k)), some (.int (rI M (fR M 104 7 + 9) (zI M (oI M (fR M 104 7 + 10) k) 0)))] [.ref 104] M v M' 0 0 := Ev.back 2 (fun n => rfl) H
        have H : Ev none (e1 + 1) 59 85 [some (.ref 104), some (.int k), some (.ref (oI M (fR M 104 7 + 10) k)), some (.int (rI M (fR M 104 7 + 9) (zI M (oI M (fR M 104 7 + 10) k) 0)))] [.ref (fR M 104 7)] M v M' 0 0 := Ev.back 1 (gs_3 rfl rfl (gf_r hS.1 qa_104 qr_22_7 rfl)) H
        have H : Ev none (e1 + 1) 59 88 [some (.ref 104), some (.int k), some (.ref (oI M (fR M 104 7 + 10) k)), some (.int (rI M (fR M 104 7 + 9) (zI M (oI M (fR M 104 7 + 10) k) 0)))] [.ref (fR M 104 7 + 11)] M v M' 0 0 := Ev.back 1 (gs_3 rfl rfl (gf_x hS.1 (hS.1.fr qa_104 qr_22_7).2 qo_8 (fx_l14 hS (hS.1.fr qa_104 qr_22_7).2) rfl)) H
        have H : Ev none (e1 + 1) 59 89 [some (.ref 104), some (.int k), some (.ref (oI M (fR M 104 7 + 10) k)), some (.int (rI M (fR M 104 7 + 9) (zI M (oI M (fR M 104 7 + 10) k) 0)))] [.ref 104, .ref (fR M 104 7 + 11)] M v M' 0 0 := Ev.back 1 (fun n => rfl) H
        have H : Ev none (e1 + 1) 59 92 [some (.ref 104), some (.int k), some (.ref (oI M (fR M 104 7 + 10) k)), some (.int (rI M (fR M 104 7 + 9) (zI M (oI M (fR M 104 7 + 10) k) 0)))] [.ref (fR M 104 7), .ref (fR M 104 7 + 11)] M v M' 0 0 := Ev.back 1 (gs_3 rfl rfl (gf_r hS.1 qa_104 qr_22_7 rfl)) H
        have H : Ev none (e1 + 1) 59 95 [some (.ref 104), some (.int k), some (.ref (oI M (fR M 104 7 + 10) k)), some (.int (rI M (fR M 104 7 + 9) (zI M (oI M (fR M 104 7 + 10) k) 0)))] [.int (zI M (fR M 104 7) 15), .ref (fR M 104 7 + 11)] M v M' 0 0 := Ev.back 1 (gs_3 rfl rfl (gf_i hS.1 (hS.1.fr qa_104 qr_22_7).2 qi_8_15 rfl)) H
        obtain ⟨b7, H⟩ := Ev.aal rfl rfl hS.1 (fx_h14 (hS.1.fr qa_104 qr_22_7).2) qz_19 H
        have H : Ev none (e1 + 1) 59 96 [some (.ref 104), some (.int k), some (.ref (oI M (fR M 104 7 + 10) k)), some (.int (rI M (fR M 104 7 + 9) (zI M (oI M (fR M 104 7 + 10) k) 0)))] [.ref (oI M (fR M 104 7 + 11) (zI M (fR M 104 7) 15))] M v M' 0 0 := H
        have H : Ev none (e1 + 1) 59 98 [some (.ref 104), some (.int k), some (.ref (oI M (fR M 104 7 + 10) k)), some (.int (rI M (fR M 104 7 + 9) (zI M (oI M (fR M 104 7 + 10) k) 0)))] [.int k, .int (rI M (fR M 104 7 + 9) (zI M (oI M (fR M 104 7 + 10) k) 0)), .ref (oI M (fR M 104 7 + 11) (zI M (fR M 104 7) 15))] M v M' 0 0 := Ev.back 2 (fun n => rfl) H
        obtain ⟨vK8, MK8, K8, H⟩ := Ev.callb (fun n_ => gs_7 rfl rfl (show gCal (.invokevirtual 173) 7 (.int k :: .int (rI M (fR M 104 7 + 9) (zI M (oI M (fR M 104 7 + 10) k) 0)) :: .ref (oI M (fR M 104 7 + 11) (zI M (fR M 104 7) 15)) :: []) M = some (.inr (73, [some (.ref (oI M (fR M 104 7 + 11) (zI M (fR M 104 7) 15))), some (.int (rI M (fR M 104 7 + 9) (zI M (oI M (fR M 104 7 + 10) k) 0))), some (.int k)], [])) from by show @cond (Option ((List Value × Mem) ⊕ (Nat × Lo × List Value))) (true && gRecv M (.ref (oI M (fR M 104 7 + 11) (zI M (fR M 104 7) 15))) 8 && gRoom [] && true) (some (.inr (73, [some (.ref (oI M (fR M 104 7 + 11) (zI M (fR M 104 7) 15))), some (.int (rI M (fR M 104 7 + 9) (zI M (oI M (fR M 104 7 + 10) k) 0))), some (.int k)], []))) none = _; rw [recv_s hS.1 b7.2 qo_21]; rfl)) H
        have K8 : Ev none e1 73 0 [some (.ref (oI M (fR M 104 7 + 11) (zI M (fR M 104 7) 15))), some (.int (rI M (fR M 104 7 + 9) (zI M (oI M (fR M 104 7 + 10) k) 0))), some (.int k)] [] M vK8 MK8 0 0 := K8
        have HF := H
        exact Or.inr (Or.inr (Or.inl ⟨h1, h4, h5, b2.1, b6, b7.1, ⟨e1, vK8, MK8, rfl, K8, HF⟩⟩))
      · rw [if_neg h5] at H
        have H : Ev none (e1 + 1) 59 53 [some (.ref 104), some (.int k), some (.ref (oI M (fR M 104 7 + 10) k)), c3] [.ref 104] M v M' 0 0 := Ev.back 1 (fun n => rfl) H
        have H : Ev none (e1 + 1) 59 56 [some (.ref 104), some (.int k), some (.ref (oI M (fR M 104 7 + 10) k)), c3] [.ref (fR M 104 7)] M v M' 0 0 := Ev.back 1 (gs_3 rfl rfl (gf_r hS.1 qa_104 qr_22_7 rfl)) H
        have H : Ev none (e1 + 1) 59 57 [some (.ref 104), some (.int k), some (.ref (oI M (fR M 104 7 + 10) k)), c3] [.ref (fR M 104 7), .ref (fR M 104 7)] M v M' 0 0 := Ev.back 1 (fun n => rfl) H
        have H : Ev none (e1 + 1) 59 60 [some (.ref 104), some (.int k), some (.ref (oI M (fR M 104 7 + 10) k)), c3] [.int (zI M (fR M 104 7) 19), .ref (fR M 104 7)] M v M' 0 0 := Ev.back 1 (gs_3 rfl rfl (gf_i hS.1 (hS.1.fr qa_104 qr_22_7).2 qi_8_19 rfl)) H
        have H : Ev none (e1 + 1) 59 62 [some (.ref 104), some (.int k), some (.ref (oI M (fR M 104 7 + 10) k)), c3] [.int ((zI M (fR M 104 7) 19) + 1), .ref (fR M 104 7)] M v M' 0 0 := Ev.back 2 (fun n => rfl) H
        obtain ⟨N10, eN10⟩ : ∃ N, N = (wF M (fR M 104 7) 19 ((zI M (fR M 104 7) 19) + 1)) := ⟨_, rfl⟩
        have hN10 : SQ N10 := by rw [eN10]; exact hS.kf
        have H : Ev none (e1 + 1) 59 65 [some (.ref 104), some (.int k), some (.ref (oI M (fR M 104 7 + 10) k)), c3] [] N10 v M' 0 0 := by rw [eN10]; exact Ev.pfi rfl rfl rfl hS.1 (hS.1.fr qa_104 qr_22_7).2 qi_8_19 H
        have H : Ev none (e1 + 1) 59 2 [some (.ref 104), some (.int (k + 1)), some (.ref (oI M (fR M 104 7 + 10) k)), c3] [] N10 v M' 0 0 := Ev.back 3 (fun n => rfl) H
        have HF := H
        subst eN10
        exact Or.inr (Or.inr (Or.inr (⟨h1, h4, h5, b2.1, HF⟩)))
theorem bgn_101 {e : Nat} {M M' : Mem} {v : Option Value} {k aw : Int32} {x : Nat} (hS : SQ M) (a_x : gNth sT x = some 20) (H : Ev none e 59 101 [some (.ref 104), some (.int k), some (.ref x), some (.int aw)] [] M v M' 0 0) : (0 ≤ aw.toInt ∧ aw.toInt < 256) ∧ (0 ≤ aw.toInt ∧ aw.toInt < 256) ∧ Ev none e 59 2 [some (.ref 104), some (.int (k + 1)), some (.ref x), some (.int aw)] [] (wI (wF M (fR M 104 7) 15 ((zI M (fR M 104 7) 15) + 1)) (fR M 104 7 + 8) aw.toNatClampNeg ((rI M (fR M 104 7 + 8) aw) + 1)) v M' 0 0 := by
  have H : Ev none e 59 102 [some (.ref 104), some (.int k), some (.ref x), some (.int aw)] [.ref 104] M v M' 0 0 := Ev.back 1 (fun n => rfl) H
  have H : Ev none e 59 105 [some (.ref 104), some (.int k), some (.ref x), some (.int aw)] [.ref (fR M 104 7)] M v M' 0 0 := Ev.back 1 (gs_3 rfl rfl (gf_r hS.1 qa_104 qr_22_7 rfl)) H
  have H : Ev none e 59 106 [some (.ref 104), some (.int k), some (.ref x), some (.int aw)] [.ref (fR M 104 7), .ref (fR M 104 7)] M v M' 0 0 := Ev.back 1 (fun n => rfl) H
  have H : Ev none e 59 109 [some (.ref 104), some (.int k), some (.ref x), some (.int aw)] [.int (zI M (fR M 104 7) 15), .ref (fR M 104 7)] M v M' 0 0 := Ev.back 1 (gs_3 rfl rfl (gf_i hS.1 (hS.1.fr qa_104 qr_22_7).2 qi_8_15 rfl)) H
  have H : Ev none e 59 111 [some (.ref 104), some (.int k), some (.ref x), some (.int aw)] [.int ((zI M (fR M 104 7) 15) + 1), .ref (fR M 104 7)] M v M' 0 0 := Ev.back 2 (fun n => rfl) H
  obtain ⟨N2, eN2⟩ : ∃ N, N = (wF M (fR M 104 7) 15 ((zI M (fR M 104 7) 15) + 1)) := ⟨_, rfl⟩
  have hN2 : SQ N2 := by rw [eN2]; exact hS.kf
  have H : Ev none e 59 114 [some (.ref 104), some (.int k), some (.ref x), some (.int aw)] [] N2 v M' 0 0 := by rw [eN2]; exact Ev.pfi rfl rfl rfl hS.1 (hS.1.fr qa_104 qr_22_7).2 qi_8_15 H
  have H : Ev none e 59 115 [some (.ref 104), some (.int k), some (.ref x), some (.int aw)] [.ref 104] N2 v M' 0 0 := Ev.back 1 (fun n => rfl) H
  have H : Ev none e 59 118 [some (.ref 104), some (.int k), some (.ref x), some (.int aw)] [.ref (fR N2 104 7)] N2 v M' 0 0 := Ev.back 1 (gs_3 rfl rfl (gf_r hN2.1 qa_104 qr_22_7 rfl)) H
  rw [show fR N2 104 7 = fR M 104 7 from by rw [eN2]; exact fR_wF] at H
  have H : Ev none e 59 121 [some (.ref 104), some (.int k), some (.ref x), some (.int aw)] [.ref (fR M 104 7 + 8)] N2 v M' 0 0 := Ev.back 1 (gs_3 rfl rfl (gf_x hN2.1 (hS.1.fr qa_104 qr_22_7).2 qo_8 (fx_l9 hN2 (hS.1.fr qa_104 qr_22_7).2) rfl)) H
  have H : Ev none e 59 123 [some (.ref 104), some (.int k), some (.ref x), some (.int aw)] [.int aw, .ref (fR M 104 7 + 8), .int aw, .ref (fR M 104 7 + 8)] N2 v M' 0 0 := Ev.back 2 (fun n => rfl) H
  obtain ⟨b3, H⟩ := Ev.ial rfl rfl hN2.1 (fx_h9 (hS.1.fr qa_104 qr_22_7).2) qw_16 H
  have H : Ev none e 59 124 [some (.ref 104), some (.int k), some (.ref x), some (.int aw)] [.int (rI N2 (fR M 104 7 + 8) aw), .int aw, .ref (fR M 104 7 + 8)] N2 v M' 0 0 := H
  rw [show rI N2 (fR M 104 7 + 8) aw = rI M (fR M 104 7 + 8) aw from by rw [eN2]; exact rN_wF] at H
  have H : Ev none e 59 126 [some (.ref 104), some (.int k), some (.ref x), some (.int aw)] [.int ((rI M (fR M 104 7 + 8) aw) + 1), .int aw, .ref (fR M 104 7 + 8)] N2 v M' 0 0 := Ev.back 2 (fun n => rfl) H
  obtain ⟨b4, H⟩ := Ev.ias rfl rfl hN2.1 (fx_h9 (hS.1.fr qa_104 qr_22_7).2) qw_16 H
  obtain ⟨N5, eN5⟩ : ∃ N, N = (wI N2 (fR M 104 7 + 8) aw.toNatClampNeg ((rI M (fR M 104 7 + 8) aw) + 1)) := ⟨_, rfl⟩
  have hN5 : SQ N5 := by rw [eN5]; exact hN2.ki
  have H : Ev none e 59 127 [some (.ref 104), some (.int k), some (.ref x), some (.int aw)] [] N5 v M' 0 0 := by rw [eN5]; exact H
  have H : Ev none e 59 2 [some (.ref 104), some (.int (k + 1)), some (.ref x), some (.int aw)] [] N5 v M' 0 0 := Ev.back 2 (fun n => rfl) H
  have HF := H
  subst eN2 eN5
  exact ⟨b3, b4, HF⟩
theorem lvd_0 {e : Nat} {M M' : Mem} {v : Option Value} {go : Int32} {b : Nat} (hS : SQ M) (a_b : gNth sT b = some 21) (H : Ev none e 60 0 [some (.ref 104), some (.ref b), some (.int go), none] [] M v M' 0 0) : ((zI M b 0) = go ∧ (0 ≤ (zI M b 0).toInt ∧ (zI M b 0).toInt < 256) ∧ (0 ≤ (zI M b 0).toInt ∧ (zI M b 0).toInt < 256) ∧ v = none ∧ M' = (wF (wI (wF (wF M (fR M 104 7) 17 ((zI M (fR M 104 7) 17) + 1)) (fR M 104 7) 18 ((zI M (fR M 104 7) 18) + 0)) (fR M 104 7 + 8) ((zI M b 0).toNatClampNeg) ((rI M (fR M 104 7 + 8) (zI M b 0)) - 1)) b 0 (-1))) ∨ (¬ ((zI M b 0) = go) ∧ 200 ≤ (zI M b 2) ∧ (0 ≤ (zI M b 0).toInt ∧ (zI M b 0).toInt < 256) ∧ (0 ≤ (zI M b 0).toInt ∧ (zI M b 0).toInt < 256) ∧ v = none ∧ M' = (wF (wI (wF (wF M (fR M 104 7) 17 ((zI M (fR M 104 7) 17) + 0)) (fR M 104 7) 18 ((zI M (fR M 104 7) 18) + 1)) (fR M 104 7 + 8) ((zI M b 0).toNatClampNeg) ((rI M (fR M 104 7 + 8) (zI M b 0)) - 1)) b 0 (-1))) ∨ (¬ ((zI M b 0) = go) ∧ ¬ (200 ≤ (zI M b 2)) ∧ v = none ∧ M' = M) := by
  have H : Ev none e 60 1 [some (.ref 104), some (.ref b), some (.int go), none] [.ref b] M v M' 0 0 := Ev.back 1 (fun n => rfl) H
  have H : Ev none e 60 4 [some (.ref 104), some (.ref b), some (.int go), none] [.int (zI M b 0)] M v M' 0 0 := Ev.back 1 (gs_3 rfl rfl (gf_i hS.1 a_b qi_21_0 rfl)) H
  have H : Ev none e 60 (if (zI M b 0) = go then 8 else 12) [some (.ref 104), some (.ref b), some (.int go), none] [] M v M' 0 0 := Ev.back 2 (fun n => rfl) H
  by_cases h1 : (zI M b 0) = go
  · rw [if_pos h1] at H
    have H : Ev none e 60 (if 1 = 0 then 18 else 29) [some (.ref 104), some (.ref b), some (.int go), some (.int 1)] [] M v M' 0 0 := Ev.back 5 (fun n => rfl) H
    rw [if_neg (by decide)] at H
    have H : Ev none e 60 30 [some (.ref 104), some (.ref b), some (.int go), some (.int 1)] [.ref 104] M v M' 0 0 := Ev.back 1 (fun n => rfl) H
    have H : Ev none e 60 33 [some (.ref 104), some (.ref b), some (.int go), some (.int 1)] [.ref (fR M 104 7)] M v M' 0 0 := Ev.back 1 (gs_3 rfl rfl (gf_r hS.1 qa_104 qr_22_7 rfl)) H
    have H : Ev none e 60 34 [some (.ref 104), some (.ref b), some (.int go), some (.int 1)] [.ref (fR M 104 7), .ref (fR M 104 7)] M v M' 0 0 := Ev.back 1 (fun n => rfl) H
    have H : Ev none e 60 37 [some (.ref 104), some (.ref b), some (.int go), some (.int 1)] [.int (zI M (fR M 104 7) 17), .ref (fR M 104 7)] M v M' 0 0 := Ev.back 1 (gs_3 rfl rfl (gf_i hS.1 (hS.1.fr qa_104 qr_22_7).2 qi_8_17 rfl)) H
    have H : Ev none e 60 (if 1 = 0 then 45 else 41) [some (.ref 104), some (.ref b), some (.int go), some (.int 1)] [.int (zI M (fR M 104 7) 17), .ref (fR M 104 7)] M v M' 0 0 := Ev.back 2 (fun n => rfl) H
    rw [if_neg (by decide)] at H
    have H : Ev none e 60 47 [some (.ref 104), some (.ref b), some (.int go), some (.int 1)] [.int ((zI M (fR M 104 7) 17) + 1), .ref (fR M 104 7)] M v M' 0 0 := Ev.back 3 (fun n => rfl) H
    obtain ⟨N3, eN3⟩ : ∃ N, N = (wF M (fR M 104 7) 17 ((zI M (fR M 104 7) 17) + 1)) := ⟨_, rfl⟩
    have hN3 : SQ N3 := by rw [eN3]; exact hS.kf
    have H : Ev none e 60 50 [some (.ref 104), some (.ref b), some (.int go), some (.int 1)] [] N3 v M' 0 0 := by rw [eN3]; exact Ev.pfi rfl rfl rfl hS.1 (hS.1.fr qa_104 qr_22_7).2 qi_8_17 H
    have H : Ev none e 60 51 [some (.ref 104), some (.ref b), some (.int go), some (.int 1)] [.ref 104] N3 v M' 0 0 := Ev.back 1 (fun n => rfl) H
    have H : Ev none e 60 54 [some (.ref 104), some (.ref b), some (.int go), some (.int 1)] [.ref (fR N3 104 7)] N3 v M' 0 0 := Ev.back 1 (gs_3 rfl rfl (gf_r hN3.1 qa_104 qr_22_7 rfl)) H
    rw [show fR N3 104 7 = fR M 104 7 from by rw [eN3]; exact fR_wF] at H
    have H : Ev none e 60 55 [some (.ref 104), some (.ref b), some (.int go), some (.int 1)] [.ref (fR M 104 7), .ref (fR M 104 7)] N3 v M' 0 0 := Ev.back 1 (fun n => rfl) H
    have H : Ev none e 60 58 [some (.ref 104), some (.ref b), some (.int go), some (.int 1)] [.int (zI N3 (fR M 104 7) 18), .ref (fR M 104 7)] N3 v M' 0 0 := Ev.back 1 (gs_3 rfl rfl (gf_i hN3.1 (hS.1.fr qa_104 qr_22_7).2 qi_8_18 rfl)) H
    rw [show zI N3 (fR M 104 7) 18 = zI M (fR M 104 7) 18 from by rw [eN3]; exact fI_wF_ne (fun q => absurd q.2 (by decide))] at H
    have H : Ev none e 60 (if 1 = 0 then 66 else 62) [some (.ref 104), some (.ref b), some (.int go), some (.int 1)] [.int (zI M (fR M 104 7) 18), .ref (fR M 104 7)] N3 v M' 0 0 := Ev.back 2 (fun n => rfl) H
    rw [if_neg (by decide)] at H
    have H : Ev none e 60 68 [some (.ref 104), some (.ref b), some (.int go), some (.int 1)] [.int ((zI M (fR M 104 7) 18) + 0), .ref (fR M 104 7)] N3 v M' 0 0 := Ev.back 3 (fun n => rfl) H
    obtain ⟨N5, eN5⟩ : ∃ N, N = (wF N3 (fR M 104 7) 18 ((zI M (fR M 104 7) 18) + 0)) := ⟨_, rfl⟩
    have hN5 : SQ N5 := by rw [eN5]; exact hN3.kf
    have H : Ev none e 60 71 [some (.ref 104), some (.ref b), some (.int go), some (.int 1)] [] N5 v M' 0 0 := by rw [eN5]; exact Ev.pfi rfl rfl rfl hN3.1 (hS.1.fr qa_104 qr_22_7).2 qi_8_18 H
    have H : Ev none e 60 72 [some (.ref 104), some (.ref b), some (.int go), some (.int 1)] [.ref 104] N5 v M' 0 0 := Ev.back 1 (fun n => rfl) H
    have H : Ev none e 60 75 [some (.ref 104), some (.ref b), some (.int go), some (.int 1)] [.ref (fR N5 104 7)] N5 v M' 0 0 := Ev.back 1 (gs_3 rfl rfl (gf_r hN5.1 qa_104 qr_22_7 rfl)) H
    rw [(show fR N5 104 7 = fR N3 104 7 from by rw [eN5]; exact fR_wF).trans (show fR N3 104 7 = fR M 104 7 from by rw [eN3]; exact fR_wF)] at H
    have H : Ev none e 60 78 [some (.ref 104), some (.ref b), some (.int go), some (.int 1)] [.ref (fR M 104 7 + 8)] N5 v M' 0 0 := Ev.back 1 (gs_3 rfl rfl (gf_x hN5.1 (hS.1.fr qa_104 qr_22_7).2 qo_8 (fx_l9 hN5 (hS.1.fr qa_104 qr_22_7).2) rfl)) H
    have H : Ev none e 60 79 [some (.ref 104), some (.ref b), some (.int go), some (.int 1)] [.ref b, .ref (fR M 104 7 + 8)] N5 v M' 0 0 := Ev.back 1 (fun n => rfl) H
    have H : Ev none e 60 82 [some (.ref 104), some (.ref b), some (.int go), some (.int 1)] [.int (zI N5 b 0), .ref (fR M 104 7 + 8)] N5 v M' 0 0 := Ev.back 1 (gs_3 rfl rfl (gf_i hN5.1 a_b qi_21_0 rfl)) H
    rw [(show zI N5 b 0 = zI N3 b 0 from by rw [eN5]; exact fI_wF_ne (fun q => absurd q.2 (by decide))).trans (show zI N3 b 0 = zI M b 0 from by rw [eN3]; exact fI_wF_ne (fun q => absurd q.2 (by decide)))] at H
    have H : Ev none e 60 83 [some (.ref 104), some (.ref b), some (.int go), some (.int 1)] [.int (zI M b 0), .ref (fR M 104 7 + 8), .int (zI M b 0), .ref (fR M 104 7 + 8)] N5 v M' 0 0 := Ev.back 1 (fun n => rfl) H
    obtain ⟨b6, H⟩ := Ev.ial rfl rfl hN5.1 (fx_h9 (hS.1.fr qa_104 qr_22_7).2) qw_16 H
    have H : Ev none e 60 84 [some (.ref 104), some (.ref b), some (.int go), some (.int 1)] [.int (rI N5 (fR M 104 7 + 8) (zI M b 0)), .int (zI M b 0), .ref (fR M 104 7 + 8)] N5 v M' 0 0 := H
    rw [(show rI N5 (fR M 104 7 + 8) (zI M b 0) = rI N3 (fR M 104 7 + 8) (zI M b 0) from by rw [eN5]; exact rN_wF).trans (show rI N3 (fR M 104 7 + 8) (zI M b 0) = rI M (fR M 104 7 + 8) (zI M b 0) from by rw [eN3]; exact rN_wF)] at H
    have H : Ev none e 60 86 [some (.ref 104), some (.ref b), some (.int go), some (.int 1)] [.int ((rI M (fR M 104 7 + 8) (zI M b 0)) - 1), .int (zI M b 0), .ref (fR M 104 7 + 8)] N5 v M' 0 0 := Ev.back 2 (fun n => rfl) H
    obtain ⟨b7, H⟩ := Ev.ias rfl rfl hN5.1 (fx_h9 (hS.1.fr qa_104 qr_22_7).2) qw_16 H
    obtain ⟨N8, eN8⟩ : ∃ N, N = (wI N5 (fR M 104 7 + 8) ((zI M b 0).toNatClampNeg) ((rI M (fR M 104 7 + 8) (zI M b 0)) - 1)) := ⟨_, rfl⟩
    have hN8 : SQ N8 := by rw [eN8]; exact hN5.ki
    have H : Ev none e 60 87 [some (.ref 104), some (.ref b), some (.int go), some (.int 1)] [] N8 v M' 0 0 := by rw [eN8]; exact H
    have H : Ev none e 60 89 [some (.ref 104), some (.ref b), some (.int go), some (.int 1)] [.int (-1), .ref b] N8 v M' 0 0 := Ev.back 2 (fun n => rfl) H
    obtain ⟨N10, eN10⟩ : ∃ N, N = (wF N8 b 0 (-1)) := ⟨_, rfl⟩
    have hN10 : SQ N10 := by rw [eN10]; exact hN8.kf
    have H : Ev none e 60 92 [some (.ref 104), some (.ref b), some (.int go), some (.int 1)] [] N10 v M' 0 0 := by rw [eN10]; exact Ev.pfi rfl rfl rfl hN8.1 a_b qi_21_0 H
    obtain ⟨z1, z2⟩ := Ev.retb (fun n => rfl) H
    subst eN3 eN5 eN8 eN10
    exact Or.inl ⟨h1, b6, b7, z1, z2⟩
  · rw [if_neg h1] at H
    have H : Ev none e 60 (if 0 = 0 then 18 else 29) [some (.ref 104), some (.ref b), some (.int go), some (.int 0)] [] M v M' 0 0 := Ev.back 4 (fun n => rfl) H
    rw [if_pos (by decide)] at H
    have H : Ev none e 60 19 [some (.ref 104), some (.ref b), some (.int go), some (.int 0)] [.ref b] M v M' 0 0 := Ev.back 1 (fun n => rfl) H
    have H : Ev none e 60 22 [some (.ref 104), some (.ref b), some (.int go), some (.int 0)] [.int (zI M b 2)] M v M' 0 0 := Ev.back 1 (gs_3 rfl rfl (gf_i hS.1 a_b qi_21_2 rfl)) H
    have H : Ev none e 60 (if 200 ≤ (zI M b 2) then 29 else 28) [some (.ref 104), some (.ref b), some (.int go), some (.int 0)] [] M v M' 0 0 := Ev.back 2 (fun n => rfl) H
    by_cases h11 : 200 ≤ (zI M b 2)
    · rw [if_pos h11] at H
      have H : Ev none e 60 30 [some (.ref 104), some (.ref b), some (.int go), some (.int 0)] [.ref 104] M v M' 0 0 := Ev.back 1 (fun n => rfl) H
      have H : Ev none e 60 33 [some (.ref 104), some (.ref b), some (.int go), some (.int 0)] [.ref (fR M 104 7)] M v M' 0 0 := Ev.back 1 (gs_3 rfl rfl (gf_r hS.1 qa_104 qr_22_7 rfl)) H
      have H : Ev none e 60 34 [some (.ref 104), some (.ref b), some (.int go), some (.int 0)] [.ref (fR M 104 7), .ref (fR M 104 7)] M v M' 0 0 := Ev.back 1 (fun n => rfl) H
      have H : Ev none e 60 37 [some (.ref 104), some (.ref b), some (.int go), some (.int 0)] [.int (zI M (fR M 104 7) 17), .ref (fR M 104 7)] M v M' 0 0 := Ev.back 1 (gs_3 rfl rfl (gf_i hS.1 (hS.1.fr qa_104 qr_22_7).2 qi_8_17 rfl)) H
      have H : Ev none e 60 (if 0 = 0 then 45 else 41) [some (.ref 104), some (.ref b), some (.int go), some (.int 0)] [.int (zI M (fR M 104 7) 17), .ref (fR M 104 7)] M v M' 0 0 := Ev.back 2 (fun n => rfl) H
      rw [if_pos (by decide)] at H
      have H : Ev none e 60 47 [some (.ref 104), some (.ref b), some (.int go), some (.int 0)] [.int ((zI M (fR M 104 7) 17) + 0), .ref (fR M 104 7)] M v M' 0 0 := Ev.back 2 (fun n => rfl) H
      obtain ⟨N13, eN13⟩ : ∃ N, N = (wF M (fR M 104 7) 17 ((zI M (fR M 104 7) 17) + 0)) := ⟨_, rfl⟩
      have hN13 : SQ N13 := by rw [eN13]; exact hS.kf
      have H : Ev none e 60 50 [some (.ref 104), some (.ref b), some (.int go), some (.int 0)] [] N13 v M' 0 0 := by rw [eN13]; exact Ev.pfi rfl rfl rfl hS.1 (hS.1.fr qa_104 qr_22_7).2 qi_8_17 H
      have H : Ev none e 60 51 [some (.ref 104), some (.ref b), some (.int go), some (.int 0)] [.ref 104] N13 v M' 0 0 := Ev.back 1 (fun n => rfl) H
      have H : Ev none e 60 54 [some (.ref 104), some (.ref b), some (.int go), some (.int 0)] [.ref (fR N13 104 7)] N13 v M' 0 0 := Ev.back 1 (gs_3 rfl rfl (gf_r hN13.1 qa_104 qr_22_7 rfl)) H
      rw [show fR N13 104 7 = fR M 104 7 from by rw [eN13]; exact fR_wF] at H
      have H : Ev none e 60 55 [some (.ref 104), some (.ref b), some (.int go), some (.int 0)] [.ref (fR M 104 7), .ref (fR M 104 7)] N13 v M' 0 0 := Ev.back 1 (fun n => rfl) H
      have H : Ev none e 60 58 [some (.ref 104), some (.ref b), some (.int go), some (.int 0)] [.int (zI N13 (fR M 104 7) 18), .ref (fR M 104 7)] N13 v M' 0 0 := Ev.back 1 (gs_3 rfl rfl (gf_i hN13.1 (hS.1.fr qa_104 qr_22_7).2 qi_8_18 rfl)) H
      rw [show zI N13 (fR M 104 7) 18 = zI M (fR M 104 7) 18 from by rw [eN13]; exact fI_wF_ne (fun q => absurd q.2 (by decide))] at H
      have H : Ev none e 60 (if 0 = 0 then 66 else 62) [some (.ref 104), some (.ref b), some (.int go), some (.int 0)] [.int (zI M (fR M 104 7) 18), .ref (fR M 104 7)] N13 v M' 0 0 := Ev.back 2 (fun n => rfl) H
      rw [if_pos (by decide)] at H
      have H : Ev none e 60 68 [some (.ref 104), some (.ref b), some (.int go), some (.int 0)] [.int ((zI M (fR M 104 7) 18) + 1), .ref (fR M 104 7)] N13 v M' 0 0 := Ev.back 2 (fun n => rfl) H
      obtain ⟨N15, eN15⟩ : ∃ N, N = (wF N13 (fR M 104 7) 18 ((zI M (fR M 104 7) 18) + 1)) := ⟨_, rfl⟩
      have hN15 : SQ N15 := by rw [eN15]; exact hN13.kf
      have H : Ev none e 60 71 [some (.ref 104), some (.ref b), some (.int go), some (.int 0)] [] N15 v M' 0 0 := by rw [eN15]; exact Ev.pfi rfl rfl rfl hN13.1 (hS.1.fr qa_104 qr_22_7).2 qi_8_18 H
      have H : Ev none e 60 72 [some (.ref 104), some (.ref b), some (.int go), some (.int 0)] [.ref 104] N15 v M' 0 0 := Ev.back 1 (fun n => rfl) H
      have H : Ev none e 60 75 [some (.ref 104), some (.ref b), some (.int go), some (.int 0)] [.ref (fR N15 104 7)] N15 v M' 0 0 := Ev.back 1 (gs_3 rfl rfl (gf_r hN15.1 qa_104 qr_22_7 rfl)) H
      rw [(show fR N15 104 7 = fR N13 104 7 from by rw [eN15]; exact fR_wF).trans (show fR N13 104 7 = fR M 104 7 from by rw [eN13]; exact fR_wF)] at H
      have H : Ev none e 60 78 [some (.ref 104), some (.ref b), some (.int go), some (.int 0)] [.ref (fR M 104 7 + 8)] N15 v M' 0 0 := Ev.back 1 (gs_3 rfl rfl (gf_x hN15.1 (hS.1.fr qa_104 qr_22_7).2 qo_8 (fx_l9 hN15 (hS.1.fr qa_104 qr_22_7).2) rfl)) H
      have H : Ev none e 60 79 [some (.ref 104), some (.ref b), some (.int go), some (.int 0)] [.ref b, .ref (fR M 104 7 + 8)] N15 v M' 0 0 := Ev.back 1 (fun n => rfl) H
      have H : Ev none e 60 82 [some (.ref 104), some (.ref b), some (.int go), some (.int 0)] [.int (zI N15 b 0), .ref (fR M 104 7 + 8)] N15 v M' 0 0 := Ev.back 1 (gs_3 rfl rfl (gf_i hN15.1 a_b qi_21_0 rfl)) H
      rw [(show zI N15 b 0 = zI N13 b 0 from by rw [eN15]; exact fI_wF_ne (fun q => absurd q.2 (by decide))).trans (show zI N13 b 0 = zI M b 0 from by rw [eN13]; exact fI_wF_ne (fun q => absurd q.2 (by decide)))] at H
      have H : Ev none e 60 83 [some (.ref 104), some (.ref b), some (.int go), some (.int 0)] [.int (zI M b 0), .ref (fR M 104 7 + 8), .int (zI M b 0), .ref (fR M 104 7 + 8)] N15 v M' 0 0 := Ev.back 1 (fun n => rfl) H
      obtain ⟨b16, H⟩ := Ev.ial rfl rfl hN15.1 (fx_h9 (hS.1.fr qa_104 qr_22_7).2) qw_16 H
      have H : Ev none e 60 84 [some (.ref 104), some (.ref b), some (.int go), some (.int 0)] [.int (rI N15 (fR M 104 7 + 8) (zI M b 0)), .int (zI M b 0), .ref (fR M 104 7 + 8)] N15 v M' 0 0 := H
      rw [(show rI N15 (fR M 104 7 + 8) (zI M b 0) = rI N13 (fR M 104 7 + 8) (zI M b 0) from by rw [eN15]; exact rN_wF).trans (show rI N13 (fR M 104 7 + 8) (zI M b 0) = rI M (fR M 104 7 + 8) (zI M b 0) from by rw [eN13]; exact rN_wF)] at H
      have H : Ev none e 60 86 [some (.ref 104), some (.ref b), some (.int go), some (.int 0)] [.int ((rI M (fR M 104 7 + 8) (zI M b 0)) - 1), .int (zI M b 0), .ref (fR M 104 7 + 8)] N15 v M' 0 0 := Ev.back 2 (fun n => rfl) H
      obtain ⟨b17, H⟩ := Ev.ias rfl rfl hN15.1 (fx_h9 (hS.1.fr qa_104 qr_22_7).2) qw_16 H
      obtain ⟨N18, eN18⟩ : ∃ N, N = (wI N15 (fR M 104 7 + 8) ((zI M b 0).toNatClampNeg) ((rI M (fR M 104 7 + 8) (zI M b 0)) - 1)) := ⟨_, rfl⟩
      have hN18 : SQ N18 := by rw [eN18]; exact hN15.ki
      have H : Ev none e 60 87 [some (.ref 104), some (.ref b), some (.int go), some (.int 0)] [] N18 v M' 0 0 := by rw [eN18]; exact H
      have H : Ev none e 60 89 [some (.ref 104), some (.ref b), some (.int go), some (.int 0)] [.int (-1), .ref b] N18 v M' 0 0 := Ev.back 2 (fun n => rfl) H
      obtain ⟨N20, eN20⟩ : ∃ N, N = (wF N18 b 0 (-1)) := ⟨_, rfl⟩
      have hN20 : SQ N20 := by rw [eN20]; exact hN18.kf
      have H : Ev none e 60 92 [some (.ref 104), some (.ref b), some (.int go), some (.int 0)] [] N20 v M' 0 0 := by rw [eN20]; exact Ev.pfi rfl rfl rfl hN18.1 a_b qi_21_0 H
      obtain ⟨z1, z2⟩ := Ev.retb (fun n => rfl) H
      subst eN13 eN15 eN18 eN20
      exact Or.inr (Or.inl ⟨h1, h11, b16, b17, z1, z2⟩)
    · rw [if_neg h11] at H
      obtain ⟨z1, z2⟩ := Ev.retb (fun n => rfl) H
      exact Or.inr (Or.inr (⟨h1, h11, z1, z2⟩))
theorem swp_0 {e : Nat} {M M' : Mem} {v : Option Value} (hS : SQ M) (H : Ev none e 61 0 [some (.ref 104), none, none, none] [] M v M' 0 0) : Ev none e 61 4 [some (.ref 104), some (.int 0), some (.int 0), none] [] M v M' 0 0 := by
  have H : Ev none e 61 4 [some (.ref 104), some (.int 0), some (.int 0), none] [] M v M' 0 0 := Ev.back 4 (fun n => rfl) H
  have HF := H
  exact HF
theorem swp_4 {e : Nat} {M M' : Mem} {v : Option Value} {sy i : Int32} {c3 : Option Value} (hS : SQ M) (H : Ev none e 61 4 [some (.ref 104), some (.int sy), some (.int i), c3] [] M v M' 0 0) : ((zI M (fR M 104 7) 15) ≤ i ∧ v = none ∧ M' = (wF M (fR M 104 7) 15 sy)) ∨ (¬ ((zI M (fR M 104 7) 15) ≤ i) ∧ (zI M (oI M (fR M 104 7 + 11) i) 0) = (-1) ∧ (0 ≤ i.toInt ∧ i.toInt < 60) ∧ Ev none e 61 4 [some (.ref 104), some (.int sy), some (.int (i + 1)), some (.ref (oI M (fR M 104 7 + 11) i))] [] M v M' 0 0) ∨ (¬ ((zI M (fR M 104 7) 15) ≤ i) ∧ ¬ ((zI M (oI M (fR M 104 7 + 11) i) 0) = (-1)) ∧ (0 ≤ i.toInt ∧ i.toInt < 60) ∧ (0 ≤ sy.toInt ∧ sy.toInt < 60) ∧ (0 ≤ i.toInt ∧ i.toInt < 60) ∧ (0 ≤ sy.toInt ∧ sy.toInt < 60) ∧ Ev none e 61 4 [some (.ref 104), some (.int (sy + 1)), some (.int (i + 1)), some (.ref (oI M (fR M 104 7 + 11) i))] [] (wO (wO M (fR M 104 7 + 11) i.toNatClampNeg (oI M (fR M 104 7 + 11) sy)) (fR M 104 7 + 11) sy.toNatClampNeg (oI M (fR M 104 7 + 11) i)) v M' 0 0) := by
  have H : Ev none e 61 6 [some (.ref 104), some (.int sy), some (.int i), c3] [.ref 104, .int i] M v M' 0 0 := Ev.back 2 (fun n => rfl) H
  have H : Ev none e 61 9 [some (.ref 104), some (.int sy), some (.int i), c3] [.ref (fR M 104 7), .int i] M v M' 0 0 := Ev.back 1 (gs_3 rfl rfl (gf_r hS.1 qa_104 qr_22_7 rfl)) H
  have H : Ev none e 61 12 [some (.ref 104), some (.int sy), some (.int i), c3] [.int (zI M (fR M 104 7) 15), .int i] M v M' 0 0 := Ev.back 1 (gs_3 rfl rfl (gf_i hS.1 (hS.1.fr qa_104 qr_22_7).2 qi_8_15 rfl)) H
  have H : Ev none e 61 (if (zI M (fR M 104 7) 15) ≤ i then 70 else 15) [some (.ref 104), some (.int sy), some (.int i), c3] [] M v M' 0 0 := Ev.back 1 (fun n => rfl) H
  by_cases h1 : (zI M (fR M 104 7) 15) ≤ i
  · rw [if_pos h1] at H
    have H : Ev none e 61 71 [some (.ref 104), some (.int sy), some (.int i), c3] [.ref 104] M v M' 0 0 := Ev.back 1 (fun n => rfl) H
    have H : Ev none e 61 74 [some (.ref 104), some (.int sy), some (.int i), c3] [.ref (fR M 104 7)] M v M' 0 0 := Ev.back 1 (gs_3 rfl rfl (gf_r hS.1 qa_104 qr_22_7 rfl)) H
    have H : Ev none e 61 75 [some (.ref 104), some (.int sy), some (.int i), c3] [.int sy, .ref (fR M 104 7)] M v M' 0 0 := Ev.back 1 (fun n => rfl) H
    obtain ⟨N3, eN3⟩ : ∃ N, N = (wF M (fR M 104 7) 15 sy) := ⟨_, rfl⟩
    have hN3 : SQ N3 := by rw [eN3]; exact hS.kf
    have H : Ev none e 61 78 [some (.ref 104), some (.int sy), some (.int i), c3] [] N3 v M' 0 0 := by rw [eN3]; exact Ev.pfi rfl rfl rfl hS.1 (hS.1.fr qa_104 qr_22_7).2 qi_8_15 H
    obtain ⟨z1, z2⟩ := Ev.retb (fun n => rfl) H
    subst eN3
    exact Or.inl ⟨h1, z1, z2⟩
  · rw [if_neg h1] at H
    have H : Ev none e 61 16 [some (.ref 104), some (.int sy), some (.int i), c3] [.ref 104] M v M' 0 0 := Ev.back 1 (fun n => rfl) H
    have H : Ev none e 61 19 [some (.ref 104), some (.int sy), some (.int i), c3] [.ref (fR M 104 7)] M v M' 0 0 := Ev.back 1 (gs_3 rfl rfl (gf_r hS.1 qa_104 qr_22_7 rfl)) H
    have H : Ev none e 61 22 [some (.ref 104), some (.int sy), some (.int i), c3] [.ref (fR M 104 7 + 11)] M v M' 0 0 := Ev.back 1 (gs_3 rfl rfl (gf_x hS.1 (hS.1.fr qa_104 qr_22_7).2 qo_8 (fx_l14 hS (hS.1.fr qa_104 qr_22_7).2) rfl)) H
    have H : Ev none e 61 23 [some (.ref 104), some (.int sy), some (.int i), c3] [.int i, .ref (fR M 104 7 + 11)] M v M' 0 0 := Ev.back 1 (fun n => rfl) H
    obtain ⟨b4, H⟩ := Ev.aal rfl rfl hS.1 (fx_h14 (hS.1.fr qa_104 qr_22_7).2) qz_19 H
    have H : Ev none e 61 24 [some (.ref 104), some (.int sy), some (.int i), c3] [.ref (oI M (fR M 104 7 + 11) i)] M v M' 0 0 := H
    have H : Ev none e 61 26 [some (.ref 104), some (.int sy), some (.int i), some (.ref (oI M (fR M 104 7 + 11) i))] [.ref (oI M (fR M 104 7 + 11) i)] M v M' 0 0 := Ev.back 2 (fun n => rfl) H
    have H : Ev none e 61 29 [some (.ref 104), some (.int sy), some (.int i), some (.ref (oI M (fR M 104 7 + 11) i))] [.int (zI M (oI M (fR M 104 7 + 11) i) 0)] M v M' 0 0 := Ev.back 1 (gs_3 rfl rfl (gf_i hS.1 b4.2 qi_21_0 rfl)) H
    have H : Ev none e 61 (if (zI M (oI M (fR M 104 7 + 11) i) 0) = (-1) then 64 else 33) [some (.ref 104), some (.int sy), some (.int i), some (.ref (oI M (fR M 104 7 + 11) i))] [] M v M' 0 0 := Ev.back 2 (fun n => rfl) H
    by_cases h5 : (zI M (oI M (fR M 104 7 + 11) i) 0) = (-1)
    · rw [if_pos h5] at H
      have H : Ev none e 61 4 [some (.ref 104), some (.int sy), some (.int (i + 1)), some (.ref (oI M (fR M 104 7 + 11) i))] [] M v M' 0 0 := Ev.back 2 (fun n => rfl) H
      have HF := H
      exact Or.inr (Or.inl ⟨h1, h5, b4.1, HF⟩)
    · rw [if_neg h5] at H
      have H : Ev none e 61 34 [some (.ref 104), some (.int sy), some (.int i), some (.ref (oI M (fR M 104 7 + 11) i))] [.ref 104] M v M' 0 0 := Ev.back 1 (fun n => rfl) H
      have H : Ev none e 61 37 [some (.ref 104), some (.int sy), some (.int i), some (.ref (oI M (fR M 104 7 + 11) i))] [.ref (fR M 104 7)] M v M' 0 0 := Ev.back 1 (gs_3 rfl rfl (gf_r hS.1 qa_104 qr_22_7 rfl)) H
      have H : Ev none e 61 40 [some (.ref 104), some (.int sy), some (.int i), some (.ref (oI M (fR M 104 7 + 11) i))] [.ref (fR M 104 7 + 11)] M v M' 0 0 := Ev.back 1 (gs_3 rfl rfl (gf_x hS.1 (hS.1.fr qa_104 qr_22_7).2 qo_8 (fx_l14 hS (hS.1.fr qa_104 qr_22_7).2) rfl)) H
      have H : Ev none e 61 42 [some (.ref 104), some (.int sy), some (.int i), some (.ref (oI M (fR M 104 7 + 11) i))] [.ref 104, .int i, .ref (fR M 104 7 + 11)] M v M' 0 0 := Ev.back 2 (fun n => rfl) H
      have H : Ev none e 61 45 [some (.ref 104), some (.int sy), some (.int i), some (.ref (oI M (fR M 104 7 + 11) i))] [.ref (fR M 104 7), .int i, .ref (fR M 104 7 + 11)] M v M' 0 0 := Ev.back 1 (gs_3 rfl rfl (gf_r hS.1 qa_104 qr_22_7 rfl)) H
      have H : Ev none e 61 48 [some (.ref 104), some (.int sy), some (.int i), some (.ref (oI M (fR M 104 7 + 11) i))] [.ref (fR M 104 7 + 11), .int i, .ref (fR M 104 7 + 11)] M v M' 0 0 := Ev.back 1 (gs_3 rfl rfl (gf_x hS.1 (hS.1.fr qa_104 qr_22_7).2 qo_8 (fx_l14 hS (hS.1.fr qa_104 qr_22_7).2) rfl)) H
      have H : Ev none e 61 49 [some (.ref 104), some (.int sy), some (.int i), some (.ref (oI M (fR M 104 7 + 11) i))] [.int sy, .ref (fR M 104 7 + 11), .int i, .ref (fR M 104 7 + 11)] M v M' 0 0 := Ev.back 1 (fun n => rfl) H
      obtain ⟨b6, H⟩ := Ev.aal rfl rfl hS.1 (fx_h14 (hS.1.fr qa_104 qr_22_7).2) qz_19 H
      have H : Ev none e 61 50 [some (.ref 104), some (.int sy), some (.int i), some (.ref (oI M (fR M 104 7 + 11) i))] [.ref (oI M (fR M 104 7 + 11) sy), .int i, .ref (fR M 104 7 + 11)] M v M' 0 0 := H
      obtain ⟨b7, H⟩ := Ev.aas rfl rfl hS.1 (fx_h14 (hS.1.fr qa_104 qr_22_7).2) qz_19 H
      obtain ⟨N8, eN8⟩ : ∃ N, N = (wO M (fR M 104 7 + 11) i.toNatClampNeg (oI M (fR M 104 7 + 11) sy)) := ⟨_, rfl⟩
      have hN8 : SQ N8 := by rw [eN8]; exact hS.ko (fx_h14 (hS.1.fr qa_104 qr_22_7).2) qz_19 b6.2
      have H : Ev none e 61 51 [some (.ref 104), some (.int sy), some (.int i), some (.ref (oI M (fR M 104 7 + 11) i))] [] N8 v M' 0 0 := by rw [eN8]; exact H
      have H : Ev none e 61 52 [some (.ref 104), some (.int sy), some (.int i), some (.ref (oI M (fR M 104 7 + 11) i))] [.ref 104] N8 v M' 0 0 := Ev.back 1 (fun n => rfl) H
      have H : Ev none e 61 55 [some (.ref 104), some (.int sy), some (.int i), some (.ref (oI M (fR M 104 7 + 11) i))] [.ref (fR N8 104 7)] N8 v M' 0 0 := Ev.back 1 (gs_3 rfl rfl (gf_r hN8.1 qa_104 qr_22_7 rfl)) H
      rw [show fR N8 104 7 = fR M 104 7 from by rw [eN8]; exact fR_wO] at H
      have H : Ev none e 61 58 [some (.ref 104), some (.int sy), some (.int i), some (.ref (oI M (fR M 104 7 + 11) i))] [.ref (fR M 104 7 + 11)] N8 v M' 0 0 := Ev.back 1 (gs_3 rfl rfl (gf_x hN8.1 (hS.1.fr qa_104 qr_22_7).2 qo_8 (fx_l14 hN8 (hS.1.fr qa_104 qr_22_7).2) rfl)) H
      have H : Ev none e 61 60 [some (.ref 104), some (.int sy), some (.int i), some (.ref (oI M (fR M 104 7 + 11) i))] [.ref (oI M (fR M 104 7 + 11) i), .int sy, .ref (fR M 104 7 + 11)] N8 v M' 0 0 := Ev.back 2 (fun n => rfl) H
      obtain ⟨b9, H⟩ := Ev.aas rfl rfl hN8.1 (fx_h14 (hS.1.fr qa_104 qr_22_7).2) qz_19 H
      obtain ⟨N10, eN10⟩ : ∃ N, N = (wO N8 (fR M 104 7 + 11) sy.toNatClampNeg (oI M (fR M 104 7 + 11) i)) := ⟨_, rfl⟩
      have hN10 : SQ N10 := by rw [eN10]; exact hN8.ko (fx_h14 (hS.1.fr qa_104 qr_22_7).2) qz_19 b4.2
      have H : Ev none e 61 61 [some (.ref 104), some (.int sy), some (.int i), some (.ref (oI M (fR M 104 7 + 11) i))] [] N10 v M' 0 0 := by rw [eN10]; exact H
      have H : Ev none e 61 4 [some (.ref 104), some (.int (sy + 1)), some (.int (i + 1)), some (.ref (oI M (fR M 104 7 + 11) i))] [] N10 v M' 0 0 := Ev.back 3 (fun n => rfl) H
      have HF := H
      subst eN8 eN10
      exact Or.inr (Or.inr (⟨h1, h5, b4.1, b6.1, b7, b9, HF⟩))
theorem goo_0 {e : Nat} {M M' : Mem} {v : Option Value} {ti : Int32} (hS : SQ M) (H : Ev none e 58 0 [some (.ref 104), some (.int ti), none, none, none, none, none, none, none] [] M v M' 0 0) : Ev none e 58 10 [some (.ref 104), some (.int ti), some (.int (zI M (fR M 104 7) 17)), some (.int 0), none, none, none, none, none] [] M v M' 0 0 := by
  have H : Ev none e 58 1 [some (.ref 104), some (.int ti), none, none, none, none, none, none, none] [.ref 104] M v M' 0 0 := Ev.back 1 (fun n => rfl) H
  have H : Ev none e 58 4 [some (.ref 104), some (.int ti), none, none, none, none, none, none, none] [.ref (fR M 104 7)] M v M' 0 0 := Ev.back 1 (gs_3 rfl rfl (gf_r hS.1 qa_104 qr_22_7 rfl)) H
  have H : Ev none e 58 7 [some (.ref 104), some (.int ti), none, none, none, none, none, none, none] [.int (zI M (fR M 104 7) 17)] M v M' 0 0 := Ev.back 1 (gs_3 rfl rfl (gf_i hS.1 (hS.1.fr qa_104 qr_22_7).2 qi_8_17 rfl)) H
  have H : Ev none e 58 10 [some (.ref 104), some (.int ti), some (.int (zI M (fR M 104 7) 17)), some (.int 0), none, none, none, none, none] [] M v M' 0 0 := Ev.back 3 (fun n => rfl) H
  have HF := H
  exact HF
theorem goo_10 {e : Nat} {M M' : Mem} {v : Option Value} {ti bf n : Int32} {c4 c5 c6 c7 c8 : Option Value} (hS : SQ M) (H : Ev none e 58 10 [some (.ref 104), some (.int ti), some (.int bf), some (.int n), c4, c5, c6, c7, c8] [] M v M' 0 0) : (ti ≤ n ∧ v = some (.int ((zI M (fR M 104 7) 17) - bf)) ∧ M' = M) ∨ (¬ (ti ≤ n) ∧ (zI M 104 10) = 0 ∧ (∃ e1 v1 M1, e = e1 + 1 ∧ Ev none e1 59 0 [some (.ref 104), none, none, none] [] M v1 M1 0 0 ∧ Ev none e 58 26 [some (.ref 104), some (.int ti), some (.int bf), some (.int n), c4, c5, c6, c7, c8] (v1.toList ++ []) M1 v M' 0 0)) ∨ (¬ (ti ≤ n) ∧ ¬ ((zI M 104 10) = 0) ∧ v = some (.int ((zI M (fR M 104 7) 17) - bf)) ∧ M' = M) := by
  have H : Ev none e 58 (if ti ≤ n then 221 else 15) [some (.ref 104), some (.int ti), some (.int bf), some (.int n), c4, c5, c6, c7, c8] [] M v M' 0 0 := Ev.back 3 (fun n => rfl) H
  by_cases h1 : ti ≤ n
  · rw [if_pos h1] at H
    have H : Ev none e 58 222 [some (.ref 104), some (.int ti), some (.int bf), some (.int n), c4, c5, c6, c7, c8] [.ref 104] M v M' 0 0 := Ev.back 1 (fun n => rfl) H
    have H : Ev none e 58 225 [some (.ref 104), some (.int ti), some (.int bf), some (.int n), c4, c5, c6, c7, c8] [.ref (fR M 104 7)] M v M' 0 0 := Ev.back 1 (gs_3 rfl rfl (gf_r hS.1 qa_104 qr_22_7 rfl)) H
    have H : Ev none e 58 228 [some (.ref 104), some (.int ti), some (.int bf), some (.int n), c4, c5, c6, c7, c8] [.int (zI M (fR M 104 7) 17)] M v M' 0 0 := Ev.back 1 (gs_3 rfl rfl (gf_i hS.1 (hS.1.fr qa_104 qr_22_7).2 qi_8_17 rfl)) H
    have H : Ev none e 58 230 [some (.ref 104), some (.int ti), some (.int bf), some (.int n), c4, c5, c6, c7, c8] [.int ((zI M (fR M 104 7) 17) - bf)] M v M' 0 0 := Ev.back 2 (fun n => rfl) H
    obtain ⟨z1, z2⟩ := Ev.retz rfl rfl H
    exact Or.inl ⟨h1, z1, z2⟩
  · rw [if_neg h1] at H
    have H : Ev none e 58 16 [some (.ref 104), some (.int ti), some (.int bf), some (.int n), c4, c5, c6, c7, c8] [.ref 104] M v M' 0 0 := Ev.back 1 (fun n => rfl) H
    have H : Ev none e 58 19 [some (.ref 104), some (.int ti), some (.int bf), some (.int n), c4, c5, c6, c7, c8] [.int (zI M 104 10)] M v M' 0 0 := Ev.back 1 (gs_3 rfl rfl (gf_i hS.1 qa_104 qi_22_10 rfl)) H
    have H : Ev none e 58 (if (zI M 104 10) = 0 then 22 else 221) [some (.ref 104), some (.int ti), some (.int bf), some (.int n), c4, c5, c6, c7, c8] [] M v M' 0 0 := Ev.back 1 (fun n => rfl) H
    by_cases h2 : (zI M 104 10) = 0
    · rw [if_pos h2] at H
      have H : Ev none e 58 23 [some (.ref 104), some (.int ti), some (.int bf), some (.int n), c4, c5, c6, c7, c8] [.ref 104] M v M' 0 0 := Ev.back 1 (fun n => rfl) H
      obtain ⟨e1, rfl⟩ := Ev.dpos rfl rfl H
      obtain ⟨vK3, MK3, K3, H⟩ := Ev.callb (fun n_ => gs_7 rfl rfl (show gCal (.invokevirtual 101) 7 (.ref 104 :: []) M = some (.inr (59, [some (.ref 104), none, none, none], [])) from by show @cond (Option ((List Value × Mem) ⊕ (Nat × Lo × List Value))) (true && gRecv M (.ref 104) 7 && gRoom [] && true) (some (.inr (59, [some (.ref 104), none, none, none], []))) none = _; rw [recv_s hS.1 qa_104 qo_22]; rfl)) H
      have K3 : Ev none e1 59 0 [some (.ref 104), none, none, none] [] M vK3 MK3 0 0 := K3
      have HF := H
      exact Or.inr (Or.inl ⟨h1, h2, ⟨e1, vK3, MK3, rfl, K3, HF⟩⟩)
    · rw [if_neg h2] at H
      have H : Ev none e 58 222 [some (.ref 104), some (.int ti), some (.int bf), some (.int n), c4, c5, c6, c7, c8] [.ref 104] M v M' 0 0 := Ev.back 1 (fun n => rfl) H
      have H : Ev none e 58 225 [some (.ref 104), some (.int ti), some (.int bf), some (.int n), c4, c5, c6, c7, c8] [.ref (fR M 104 7)] M v M' 0 0 := Ev.back 1 (gs_3 rfl rfl (gf_r hS.1 qa_104 qr_22_7 rfl)) H
      have H : Ev none e 58 228 [some (.ref 104), some (.int ti), some (.int bf), some (.int n), c4, c5, c6, c7, c8] [.int (zI M (fR M 104 7) 17)] M v M' 0 0 := Ev.back 1 (gs_3 rfl rfl (gf_i hS.1 (hS.1.fr qa_104 qr_22_7).2 qi_8_17 rfl)) H
      have H : Ev none e 58 230 [some (.ref 104), some (.int ti), some (.int bf), some (.int n), c4, c5, c6, c7, c8] [.int ((zI M (fR M 104 7) 17) - bf)] M v M' 0 0 := Ev.back 2 (fun n => rfl) H
      obtain ⟨z1, z2⟩ := Ev.retz rfl rfl H
      exact Or.inr (Or.inr (⟨h1, h2, z1, z2⟩))
theorem goo_26 {e : Nat} {M M' : Mem} {v : Option Value} {ti bf n : Int32} {c4 c5 c6 c7 c8 : Option Value} (hS : SQ M) (H : Ev none e 58 26 [some (.ref 104), some (.int ti), some (.int bf), some (.int n), c4, c5, c6, c7, c8] [] M v M' 0 0) : Ev none e 58 29 [some (.ref 104), some (.int ti), some (.int bf), some (.int n), some (.int 0), c5, c6, c7, c8] [] M v M' 0 0 := by
  have H : Ev none e 58 29 [some (.ref 104), some (.int ti), some (.int bf), some (.int n), some (.int 0), c5, c6, c7, c8] [] M v M' 0 0 := Ev.back 2 (fun n => rfl) H
  have HF := H
  exact HF
theorem goo_29 {e : Nat} {M M' : Mem} {v : Option Value} {ti bf n i : Int32} {c5 c6 c7 c8 : Option Value} (hS : SQ M) (H : Ev none e 58 29 [some (.ref 104), some (.int ti), some (.int bf), some (.int n), some (.int i), c5, c6, c7, c8] [] M v M' 0 0) : ((zI M (fR M 104 7) 15) ≤ i ∧ (∃ e1 v1 M1, e = e1 + 1 ∧ Ev none e1 61 0 [some (.ref 104), none, none, none] [] M v1 M1 0 0 ∧ Ev none e 58 202 [some (.ref 104), some (.int ti), some (.int bf), some (.int n), some (.int i), c5, c6, c7, c8] (v1.toList ++ []) M1 v M' 0 0)) ∨ (¬ ((zI M (fR M 104 7) 15) ≤ i) ∧ (0 ≤ i.toInt ∧ i.toInt < 60) ∧ (0 ≤ (zI M (oI M (fR M 104 7 + 11) i) 1).toInt ∧ (zI M (oI M (fR M 104 7 + 11) i) 1).toInt < 24) ∧ (0 ≤ (zI M (oI M (fR M 104 7 + 10) (zI M (oI M (fR M 104 7 + 11) i) 1)) 1).toInt ∧ (zI M (oI M (fR M 104 7 + 10) (zI M (oI M (fR M 104 7 + 11) i) 1)) 1).toInt < 9) ∧ (∃ e1 v1 M1, e = e1 + 1 ∧ Ev none e1 66 0 [some (.ref 104), some (.ref (oI M (fR M 104 7 + 11) i)), some (.int (rI M (fR M 104 7 + 9) (zI M (oI M (fR M 104 7 + 10) (zI M (oI M (fR M 104 7 + 11) i) 1)) 1))), some (.int (zI M (oI M (fR M 104 7 + 10) (zI M (oI M (fR M 104 7 + 11) i) 1)) 2)), none, none, none, none, none, none] [] M v1 M1 0 0 ∧ Ev none e 58 96 [some (.ref 104), some (.int ti), some (.int bf), some (.int n), some (.int i), some (.ref (oI M (fR M 104 7 + 11) i)), some (.ref (oI M (fR M 104 7 + 10) (zI M (oI M (fR M 104 7 + 11) i) 1))), some (.int (rI M (fR M 104 7 + 9) (zI M (oI M (fR M 104 7 + 10) (zI M (oI M (fR M 104 7 + 11) i) 1)) 1))), c8] (v1.toList ++ []) M1 v M' 0 0)) := by
  have H : Ev none e 58 32 [some (.ref 104), some (.int ti), some (.int bf), some (.int n), some (.int i), c5, c6, c7, c8] [.ref 104, .int i] M v M' 0 0 := Ev.back 2 (fun n => rfl) H
  have H : Ev none e 58 35 [some (.ref 104), some (.int ti), some (.int bf), some (.int n), some (.int i), c5, c6, c7, c8] [.ref (fR M 104 7), .int i] M v M' 0 0 := Ev.back 1 (gs_3 rfl rfl (gf_r hS.1 qa_104 qr_22_7 rfl)) H
  have H : Ev none e 58 38 [some (.ref 104), some (.int ti), some (.int bf), some (.int n), some (.int i), c5, c6, c7, c8] [.int (zI M (fR M 104 7) 15), .int i] M v M' 0 0 := Ev.back 1 (gs_3 rfl rfl (gf_i hS.1 (hS.1.fr qa_104 qr_22_7).2 qi_8_15 rfl)) H
  have H : Ev none e 58 (if (zI M (fR M 104 7) 15) ≤ i then 198 else 41) [some (.ref 104), some (.int ti), some (.int bf), some (.int n), some (.int i), c5, c6, c7, c8] [] M v M' 0 0 := Ev.back 1 (fun n => rfl) H
  by_cases h1 : (zI M (fR M 104 7) 15) ≤ i
  · rw [if_pos h1] at H
    have H : Ev none e 58 199 [some (.ref 104), some (.int ti), some (.int bf), some (.int n), some (.int i), c5, c6, c7, c8] [.ref 104] M v M' 0 0 := Ev.back 1 (fun n => rfl) H
    obtain ⟨e1, rfl⟩ := Ev.dpos rfl rfl H
    obtain ⟨vK2, MK2, K2, H⟩ := Ev.callb (fun n_ => gs_7 rfl rfl (show gCal (.invokevirtual 155) 7 (.ref 104 :: []) M = some (.inr (61, [some (.ref 104), none, none, none], [])) from by show @cond (Option ((List Value × Mem) ⊕ (Nat × Lo × List Value))) (true && gRecv M (.ref 104) 7 && gRoom [] && true) (some (.inr (61, [some (.ref 104), none, none, none], []))) none = _; rw [recv_s hS.1 qa_104 qo_22]; rfl)) H
    have K2 : Ev none e1 61 0 [some (.ref 104), none, none, none] [] M vK2 MK2 0 0 := K2
    have HF := H
    exact Or.inl ⟨h1, ⟨e1, vK2, MK2, rfl, K2, HF⟩⟩
  · rw [if_neg h1] at H
    have H : Ev none e 58 42 [some (.ref 104), some (.int ti), some (.int bf), some (.int n), some (.int i), c5, c6, c7, c8] [.ref 104] M v M' 0 0 := Ev.back 1 (fun n => rfl) H
    have H : Ev none e 58 45 [some (.ref 104), some (.int ti), some (.int bf), some (.int n), some (.int i), c5, c6, c7, c8] [.ref (fR M 104 7)] M v M' 0 0 := Ev.back 1 (gs_3 rfl rfl (gf_r hS.1 qa_104 qr_22_7 rfl)) H
    have H : Ev none e 58 48 [some (.ref 104), some (.int ti), some (.int bf), some (.int n), some (.int i), c5, c6, c7, c8] [.ref (fR M 104 7 + 11)] M v M' 0 0 := Ev.back 1 (gs_3 rfl rfl (gf_x hS.1 (hS.1.fr qa_104 qr_22_7).2 qo_8 (fx_l14 hS (hS.1.fr qa_104 qr_22_7).2) rfl)) H
    have H : Ev none e 58 50 [some (.ref 104), some (.int ti), some (.int bf), some (.int n), some (.int i), c5, c6, c7, c8] [.int i, .ref (fR M 104 7 + 11)] M v M' 0 0 := Ev.back 1 (fun n => rfl) H
    obtain ⟨b3, H⟩ := Ev.aal rfl rfl hS.1 (fx_h14 (hS.1.fr qa_104 qr_22_7).2) qz_19 H
    have H : Ev none e 58 51 [some (.ref 104), some (.int ti), some (.int bf), some (.int n), some (.int i), c5, c6, c7, c8] [.ref (oI M (fR M 104 7 + 11) i)] M v M' 0 0 := H
    have H : Ev none e 58 54 [some (.ref 104), some (.int ti), some (.int bf), some (.int n), some (.int i), some (.ref (oI M (fR M 104 7 + 11) i)), c6, c7, c8] [.ref 104] M v M' 0 0 := Ev.back 2 (fun n => rfl) H
    have H : Ev none e 58 57 [some (.ref 104), some (.int ti), some (.int bf), some (.int n), some (.int i), some (.ref (oI M (fR M 104 7 + 11) i)), c6, c7, c8] [.ref (fR M 104 7)] M v M' 0 0 := Ev.back 1 (gs_3 rfl rfl (gf_r hS.1 qa_104 qr_22_7 rfl)) H
    have H : Ev none e 58 60 [some (.ref 104), some (.int ti), some (.int bf), some (.int n), some (.int i), some (.ref (oI M (fR M 104 7 + 11) i)), c6, c7, c8] [.ref (fR M 104 7 + 10)] M v M' 0 0 := Ev.back 1 (gs_3 rfl rfl (gf_x hS.1 (hS.1.fr qa_104 qr_22_7).2 qo_8 (fx_l12 hS (hS.1.fr qa_104 qr_22_7).2) rfl)) H
    have H : Ev none e 58 62 [some (.ref 104), some (.int ti), some (.int bf), some (.int n), some (.int i), some (.ref (oI M (fR M 104 7 + 11) i)), c6, c7, c8] [.ref (oI M (fR M 104 7 + 11) i), .ref (fR M 104 7 + 10)] M v M' 0 0 := Ev.back 1 (fun n => rfl) H
    have H : Ev none e 58 65 [some (.ref 104), some (.int ti), some (.int bf), some (.int n), some (.int i), some (.ref (oI M (fR M 104 7 + 11) i)), c6, c7, c8] [.int (zI M (oI M (fR M 104 7 + 11) i) 1), .ref (fR M 104 7 + 10)] M v M' 0 0 := Ev.back 1 (gs_3 rfl rfl (gf_i hS.1 b3.2 qi_21_1 rfl)) H
    obtain ⟨b4, H⟩ := Ev.aal rfl rfl hS.1 (fx_h12 (hS.1.fr qa_104 qr_22_7).2) qz_18 H
    have H : Ev none e 58 66 [some (.ref 104), some (.int ti), some (.int bf), some (.int n), some (.int i), some (.ref (oI M (fR M 104 7 + 11) i)), c6, c7, c8] [.ref (oI M (fR M 104 7 + 10) (zI M (oI M (fR M 104 7 + 11) i) 1))] M v M' 0 0 := H
    have H : Ev none e 58 69 [some (.ref 104), some (.int ti), some (.int bf), some (.int n), some (.int i), some (.ref (oI M (fR M 104 7 + 11) i)), some (.ref (oI M (fR M 104 7 + 10) (zI M (oI M (fR M 104 7 + 11) i) 1))), c7, c8] [.ref 104] M v M' 0 0 := Ev.back 2 (fun n => rfl) H
    have H : Ev none e 58 72 [some (.ref 104), some (.int ti), some (.int bf), some (.int n), some (.int i), some (.ref (oI M (fR M 104 7 + 11) i)), some (.ref (oI M (fR M 104 7 + 10) (zI M (oI M (fR M 104 7 + 11) i) 1))), c7, c8] [.ref (fR M 104 7)] M v M' 0 0 := Ev.back 1 (gs_3 rfl rfl (gf_r hS.1 qa_104 qr_22_7 rfl)) H
    have H : Ev none e 58 75 [some (.ref 104), some (.int ti), some (.int bf), some (.int n), some (.int i), some (.ref (oI M (fR M 104 7 + 11) i)), some (.ref (oI M (fR M 104 7 + 10) (zI M (oI M (fR M 104 7 + 11) i) 1))), c7, c8] [.ref (fR M 104 7 + 9)] M v M' 0 0 := Ev.back 1 (gs_3 rfl rfl (gf_x hS.1 (hS.1.fr qa_104 qr_22_7).2 qo_8 (fx_l10 hS (hS.1.fr qa_104 qr_22_7).2) rfl)) H
    have H : Ev none e 58 77 [some (.ref 104), some (.int ti), some (.int bf), some (.int n), some (.int i), some (.ref (oI M (fR M 104 7 + 11) i)), some (.ref (oI M (fR M 104 7 + 10) (zI M (oI M (fR M 104 7 + 11) i) 1))), c7, c8] [.ref (oI M (fR M 104 7 + 10) (zI M (oI M (fR M 104 7 + 11) i) 1)), .ref (fR M 104 7 + 9)] M v M' 0 0 := Ev.back 1 (fun n => rfl) H
    have H : Ev none e 58 80 [some (.ref 104), some (.int ti), some (.int bf), some (.int n), some (.int i), some (.ref (oI M (fR M 104 7 + 11) i)), some (.ref (oI M (fR M 104 7 + 10) (zI M (oI M (fR M 104 7 + 11) i) 1))), c7, c8] [.int (zI M (oI M (fR M 104 7 + 10) (zI M (oI M (fR M 104 7 + 11) i) 1)) 1), .ref (fR M 104 7 + 9)] M v M' 0 0 := Ev.back 1 (gs_3 rfl rfl (gf_i hS.1 b4.2 qi_20_1 rfl)) H
    obtain ⟨b5, H⟩ := Ev.ial rfl rfl hS.1 (fx_h10 (hS.1.fr qa_104 qr_22_7).2) qw_17 H
    have H : Ev none e 58 81 [some (.ref 104), some (.int ti), some (.int bf), some (.int n), some (.int i), some (.ref (oI M (fR M 104 7 + 11) i)), some (.ref (oI M (fR M 104 7 + 10) (zI M (oI M (fR M 104 7 + 11) i) 1))), c7, c8] [.int (rI M (fR M 104 7 + 9) (zI M (oI M (fR M 104 7 + 10) (zI M (oI M (fR M 104 7 + 11) i) 1)) 1))] M v M' 0 0 := H
    have H : Ev none e 58 90 [some (.ref 104), some (.int ti), some (.int bf), some (.int n), some (.int i), some (.ref (oI M (fR M 104 7 + 11) i)), some (.ref (oI M (fR M 104 7 + 10) (zI M (oI M (fR M 104 7 + 11) i) 1))), some (.int (rI M (fR M 104 7 + 9) (zI M (oI M (fR M 104 7 + 10) (zI M (oI M (fR M 104 7 + 11) i) 1)) 1))), c8] [.ref (oI M (fR M 104 7 + 10) (zI M (oI M (fR M 104 7 + 11) i) 1)), .int (rI M (fR M 104 7 + 9) (zI M (oI M (fR M 104 7 + 10) (zI M (oI M (fR M 104 7 + 11) i) 1)) 1)), .ref (oI M (fR M 104 7 + 11) i), .ref 104] M v M' 0 0 := Ev.back 5 (fun n => rfl) H
    have H : Ev none e 58 93 [some (.ref 104), some (.int ti), some (.int bf), some (.int n), some (.int i), some (.ref (oI M (fR M 104 7 + 11) i)), some (.ref (oI M (fR M 104 7 + 10) (zI M (oI M (fR M 104 7 + 11) i) 1))), some (.int (rI M (fR M 104 7 + 9) (zI M (oI M (fR M 104 7 + 10) (zI M (oI M (fR M 104 7 + 11) i) 1)) 1))), c8] [.int (zI M (oI M (fR M 104 7 + 10) (zI M (oI M (fR M 104 7 + 11) i) 1)) 2), .int (rI M (fR M 104 7 + 9) (zI M (oI M (fR M 104 7 + 10) (zI M (oI M (fR M 104 7 + 11) i) 1)) 1)), .ref (oI M (fR M 104 7 + 11) i), .ref 104] M v M' 0 0 := Ev.back 1 (gs_3 rfl rfl (gf_i hS.1 b4.2 qi_20_2 rfl)) H
    obtain ⟨e1, rfl⟩ := Ev.dpos rfl rfl H
    obtain ⟨vK6, MK6, K6, H⟩ := Ev.callb (fun n_ => gs_7 rfl rfl (show gCal (.invokevirtual 128) 7 (.int (zI M (oI M (fR M 104 7 + 10) (zI M (oI M (fR M 104 7 + 11) i) 1)) 2) :: .int (rI M (fR M 104 7 + 9) (zI M (oI M (fR M 104 7 + 10) (zI M (oI M (fR M 104 7 + 11) i) 1)) 1)) :: .ref (oI M (fR M 104 7 + 11) i) :: .ref 104 :: []) M = some (.inr (66, [some (.ref 104), some (.ref (oI M (fR M 104 7 + 11) i)), some (.int (rI M (fR M 104 7 + 9) (zI M (oI M (fR M 104 7 + 10) (zI M (oI M (fR M 104 7 + 11) i) 1)) 1))), some (.int (zI M (oI M (fR M 104 7 + 10) (zI M (oI M (fR M 104 7 + 11) i) 1)) 2)), none, none, none, none, none, none], [])) from by show @cond (Option ((List Value × Mem) ⊕ (Nat × Lo × List Value))) (true && gRecv M (.ref 104) 7 && gRoom [] && true) (some (.inr (66, [some (.ref 104), some (.ref (oI M (fR M 104 7 + 11) i)), some (.int (rI M (fR M 104 7 + 9) (zI M (oI M (fR M 104 7 + 10) (zI M (oI M (fR M 104 7 + 11) i) 1)) 1))), some (.int (zI M (oI M (fR M 104 7 + 10) (zI M (oI M (fR M 104 7 + 11) i) 1)) 2)), none, none, none, none, none, none], []))) none = _; rw [recv_s hS.1 qa_104 qo_22]; rfl)) H
    have K6 : Ev none e1 66 0 [some (.ref 104), some (.ref (oI M (fR M 104 7 + 11) i)), some (.int (rI M (fR M 104 7 + 9) (zI M (oI M (fR M 104 7 + 10) (zI M (oI M (fR M 104 7 + 11) i) 1)) 1))), some (.int (zI M (oI M (fR M 104 7 + 10) (zI M (oI M (fR M 104 7 + 11) i) 1)) 2)), none, none, none, none, none, none] [] M vK6 MK6 0 0 := K6
    have HF := H
    exact Or.inr (⟨h1, b3.1, b4.1, b5, ⟨e1, vK6, MK6, rfl, K6, HF⟩⟩)
theorem goo_96 {e : Nat} {M M' : Mem} {v : Option Value} {ti bf n i go y : Int32} {b x : Nat} {c8 : Option Value} (hS : SQ M) (a_b : gNth sT b = some 21) (a_x : gNth sT x = some 20) (H : Ev none e 58 96 [some (.ref 104), some (.int ti), some (.int bf), some (.int n), some (.int i), some (.ref b), some (.ref x), some (.int go), c8] [.int y] M v M' 0 0) : (y = (-1) ∧ Ev none e 58 173 [some (.ref 104), some (.int ti), some (.int bf), some (.int n), some (.int i), some (.ref b), some (.ref x), some (.int go), some (.int y)] [] M v M' 0 0) ∨ (¬ (y = (-1)) ∧ (0 ≤ (zI M b 0).toInt ∧ (zI M b 0).toInt < 256) ∧ (0 ≤ (zI M b 0).toInt ∧ (zI M b 0).toInt < 256) ∧ (0 ≤ ((8 * (zI M b 0)) + y).toInt ∧ ((8 * (zI M b 0)) + y).toInt < 2048) ∧ (∃ e1 v1 M1, e = e1 + 1 ∧ Ev none e1 74 0 [some (.ref b), some (.int (rI (wI M (fR M 104 7 + 8) ((zI M b 0).toNatClampNeg) ((rI M (fR M 104 7 + 8) (zI M b 0)) - 1)) 108 ((8 * (zI M b 0)) + y))), some (.int y)] [] (wI M (fR M 104 7 + 8) ((zI M b 0).toNatClampNeg) ((rI M (fR M 104 7 + 8) (zI M b 0)) - 1)) v1 M1 0 0 ∧ Ev none e 58 147 [some (.ref 104), some (.int ti), some (.int bf), some (.int n), some (.int i), some (.ref b), some (.ref x), some (.int go), some (.int y)] (v1.toList ++ []) M1 v M' 0 0)) := by
  have H : Ev none e 58 (if y = (-1) then 173 else 104) [some (.ref 104), some (.int ti), some (.int bf), some (.int n), some (.int i), some (.ref b), some (.ref x), some (.int go), some (.int y)] [] M v M' 0 0 := Ev.back 4 (fun n => rfl) H
  by_cases h1 : y = (-1)
  · rw [if_pos h1] at H
    have HF := H
    exact Or.inl ⟨h1, HF⟩
  · rw [if_neg h1] at H
    have H : Ev none e 58 105 [some (.ref 104), some (.int ti), some (.int bf), some (.int n), some (.int i), some (.ref b), some (.ref x), some (.int go), some (.int y)] [.ref 104] M v M' 0 0 := Ev.back 1 (fun n => rfl) H
    have H : Ev none e 58 108 [some (.ref 104), some (.int ti), some (.int bf), some (.int n), some (.int i), some (.ref b), some (.ref x), some (.int go), some (.int y)] [.ref (fR M 104 7)] M v M' 0 0 := Ev.back 1 (gs_3 rfl rfl (gf_r hS.1 qa_104 qr_22_7 rfl)) H
    have H : Ev none e 58 111 [some (.ref 104), some (.int ti), some (.int bf), some (.int n), some (.int i), some (.ref b), some (.ref x), some (.int go), some (.int y)] [.ref (fR M 104 7 + 8)] M v M' 0 0 := Ev.back 1 (gs_3 rfl rfl (gf_x hS.1 (hS.1.fr qa_104 qr_22_7).2 qo_8 (fx_l9 hS (hS.1.fr qa_104 qr_22_7).2) rfl)) H
    have H : Ev none e 58 113 [some (.ref 104), some (.int ti), some (.int bf), some (.int n), some (.int i), some (.ref b), some (.ref x), some (.int go), some (.int y)] [.ref b, .ref (fR M 104 7 + 8)] M v M' 0 0 := Ev.back 1 (fun n => rfl) H
    have H : Ev none e 58 116 [some (.ref 104), some (.int ti), some (.int bf), some (.int n), some (.int i), some (.ref b), some (.ref x), some (.int go), some (.int y)] [.int (zI M b 0), .ref (fR M 104 7 + 8)] M v M' 0 0 := Ev.back 1 (gs_3 rfl rfl (gf_i hS.1 a_b qi_21_0 rfl)) H
    have H : Ev none e 58 117 [some (.ref 104), some (.int ti), some (.int bf), some (.int n), some (.int i), some (.ref b), some (.ref x), some (.int go), some (.int y)] [.int (zI M b 0), .ref (fR M 104 7 + 8), .int (zI M b 0), .ref (fR M 104 7 + 8)] M v M' 0 0 := Ev.back 1 (fun n => rfl) H
    obtain ⟨b2, H⟩ := Ev.ial rfl rfl hS.1 (fx_h9 (hS.1.fr qa_104 qr_22_7).2) qw_16 H
    have H : Ev none e 58 118 [some (.ref 104), some (.int ti), some (.int bf), some (.int n), some (.int i), some (.ref b), some (.ref x), some (.int go), some (.int y)] [.int (rI M (fR M 104 7 + 8) (zI M b 0)), .int (zI M b 0), .ref (fR M 104 7 + 8)] M v M' 0 0 := H
    have H : Ev none e 58 120 [some (.ref 104), some (.int ti), some (.int bf), some (.int n), some (.int i), some (.ref b), some (.ref x), some (.int go), some (.int y)] [.int ((rI M (fR M 104 7 + 8) (zI M b 0)) - 1), .int (zI M b 0), .ref (fR M 104 7 + 8)] M v M' 0 0 := Ev.back 2 (fun n => rfl) H
    obtain ⟨b3, H⟩ := Ev.ias rfl rfl hS.1 (fx_h9 (hS.1.fr qa_104 qr_22_7).2) qw_16 H
    obtain ⟨N4, eN4⟩ : ∃ N, N = (wI M (fR M 104 7 + 8) ((zI M b 0).toNatClampNeg) ((rI M (fR M 104 7 + 8) (zI M b 0)) - 1)) := ⟨_, rfl⟩
    have hN4 : SQ N4 := by rw [eN4]; exact hS.ki
    have H : Ev none e 58 121 [some (.ref 104), some (.int ti), some (.int bf), some (.int n), some (.int i), some (.ref b), some (.ref x), some (.int go), some (.int y)] [] N4 v M' 0 0 := by rw [eN4]; exact H
    have H : Ev none e 58 124 [some (.ref 104), some (.int ti), some (.int bf), some (.int n), some (.int i), some (.ref b), some (.ref x), some (.int go), some (.int y)] [.ref 104, .ref b] N4 v M' 0 0 := Ev.back 2 (fun n => rfl) H
    have H : Ev none e 58 127 [some (.ref 104), some (.int ti), some (.int bf), some (.int n), some (.int i), some (.ref b), some (.ref x), some (.int go), some (.int y)] [.ref 105, .ref b] N4 v M' 0 0 := Ev.back 1 (gs_3 rfl rfl (gf_u hN4.1 qa_104 qr_22_0 qu_23 rfl)) H
    have H : Ev none e 58 130 [some (.ref 104), some (.int ti), some (.int bf), some (.int n), some (.int i), some (.ref b), some (.ref x), some (.int go), some (.int y)] [.ref 108, .ref b] N4 v M' 0 0 := Ev.back 1 (gs_3 rfl rfl (gf_u hN4.1 qa_105 qr_23_2 qu_26 rfl)) H
    have H : Ev none e 58 134 [some (.ref 104), some (.int ti), some (.int bf), some (.int n), some (.int i), some (.ref b), some (.ref x), some (.int go), some (.int y)] [.ref b, .int 8, .ref 108, .ref b] N4 v M' 0 0 := Ev.back 2 (fun n => rfl) H
    have H : Ev none e 58 137 [some (.ref 104), some (.int ti), some (.int bf), some (.int n), some (.int i), some (.ref b), some (.ref x), some (.int go), some (.int y)] [.int (zI N4 b 0), .int 8, .ref 108, .ref b] N4 v M' 0 0 := Ev.back 1 (gs_3 rfl rfl (gf_i hN4.1 a_b qi_21_0 rfl)) H
    rw [show zI N4 b 0 = zI M b 0 from by rw [eN4]; exact fI_wI] at H
    have H : Ev none e 58 141 [some (.ref 104), some (.int ti), some (.int bf), some (.int n), some (.int i), some (.ref b), some (.ref x), some (.int go), some (.int y)] [.int ((8 * (zI M b 0)) + y), .ref 108, .ref b] N4 v M' 0 0 := Ev.back 3 (fun n => rfl) H
    obtain ⟨b5, H⟩ := Ev.ial rfl rfl hN4.1 qa_108 qw_26 H
    have H : Ev none e 58 142 [some (.ref 104), some (.int ti), some (.int bf), some (.int n), some (.int i), some (.ref b), some (.ref x), some (.int go), some (.int y)] [.int (rI N4 108 ((8 * (zI M b 0)) + y)), .ref b] N4 v M' 0 0 := H
    have H : Ev none e 58 144 [some (.ref 104), some (.int ti), some (.int bf), some (.int n), some (.int i), some (.ref b), some (.ref x), some (.int go), some (.int y)] [.int y, .int (rI N4 108 ((8 * (zI M b 0)) + y)), .ref b] N4 v M' 0 0 := Ev.back 1 (fun n => rfl) H
    obtain ⟨e1, rfl⟩ := Ev.dpos rfl rfl H
    obtain ⟨vK6, MK6, K6, H⟩ := Ev.callb (fun n_ => gs_7 rfl rfl (show gCal (.invokevirtual 141) 7 (.int y :: .int (rI N4 108 ((8 * (zI M b 0)) + y)) :: .ref b :: []) N4 = some (.inr (74, [some (.ref b), some (.int (rI N4 108 ((8 * (zI M b 0)) + y))), some (.int y)], [])) from by show @cond (Option ((List Value × Mem) ⊕ (Nat × Lo × List Value))) (true && gRecv N4 (.ref b) 8 && gRoom [] && true) (some (.inr (74, [some (.ref b), some (.int (rI N4 108 ((8 * (zI M b 0)) + y))), some (.int y)], []))) none = _; rw [recv_s hN4.1 a_b qo_21]; rfl)) H
    have K6 : Ev none e1 74 0 [some (.ref b), some (.int (rI N4 108 ((8 * (zI M b 0)) + y))), some (.int y)] [] N4 vK6 MK6 0 0 := K6
    have HF := H
    subst eN4
    exact Or.inr (⟨h1, b2, b3, b5, ⟨e1, vK6, MK6, rfl, K6, HF⟩⟩)
theorem goo_147 {e : Nat} {M M' : Mem} {v : Option Value} {ti bf n i go y : Int32} {b x : Nat} (hS : SQ M) (a_b : gNth sT b = some 21) (a_x : gNth sT x = some 20) (H : Ev none e 58 147 [some (.ref 104), some (.int ti), some (.int bf), some (.int n), some (.int i), some (.ref b), some (.ref x), some (.int go), some (.int y)] [] M v M' 0 0) : (0 ≤ (zI M b 0).toInt ∧ (zI M b 0).toInt < 256) ∧ (0 ≤ (zI M b 0).toInt ∧ (zI M b 0).toInt < 256) ∧ (∃ e1 v1 M1, e = e1 + 1 ∧ Ev none e1 62 0 [some (.ref 104), some (.int (zI M b 0)), none] [] (wI M (fR M 104 7 + 8) ((zI M b 0).toNatClampNeg) ((rI M (fR M 104 7 + 8) (zI M b 0)) + 1)) v1 M1 0 0 ∧ Ev none e 58 173 [some (.ref 104), some (.int ti), some (.int bf), some (.int n), some (.int i), some (.ref b), some (.ref x), some (.int go), some (.int y)] (v1.toList ++ []) M1 v M' 0 0) := by
  have H : Ev none e 58 148 [some (.ref 104), some (.int ti), some (.int bf), some (.int n), some (.int i), some (.ref b), some (.ref x), some (.int go), some (.int y)] [.ref 104] M v M' 0 0 := Ev.back 1 (fun n => rfl) H
  have H : Ev none e 58 151 [some (.ref 104), some (.int ti), some (.int bf), some (.int n), some (.int i), some (.ref b), some (.ref x), some (.int go), some (.int y)] [.ref (fR M 104 7)] M v M' 0 0 := Ev.back 1 (gs_3 rfl rfl (gf_r hS.1 qa_104 qr_22_7 rfl)) H
  have H : Ev none e 58 154 [some (.ref 104), some (.int ti), some (.int bf), some (.int n), some (.int i), some (.ref b), some (.ref x), some (.int go), some (.int y)] [.ref (fR M 104 7 + 8)] M v M' 0 0 := Ev.back 1 (gs_3 rfl rfl (gf_x hS.1 (hS.1.fr qa_104 qr_22_7).2 qo_8 (fx_l9 hS (hS.1.fr qa_104 qr_22_7).2) rfl)) H
  have H : Ev none e 58 156 [some (.ref 104), some (.int ti), some (.int bf), some (.int n), some (.int i), some (.ref b), some (.ref x), some (.int go), some (.int y)] [.ref b, .ref (fR M 104 7 + 8)] M v M' 0 0 := Ev.back 1 (fun n => rfl) H
  have H : Ev none e 58 159 [some (.ref 104), some (.int ti), some (.int bf), some (.int n), some (.int i), some (.ref b), some (.ref x), some (.int go), some (.int y)] [.int (zI M b 0), .ref (fR M 104 7 + 8)] M v M' 0 0 := Ev.back 1 (gs_3 rfl rfl (gf_i hS.1 a_b qi_21_0 rfl)) H
  have H : Ev none e 58 160 [some (.ref 104), some (.int ti), some (.int bf), some (.int n), some (.int i), some (.ref b), some (.ref x), some (.int go), some (.int y)] [.int (zI M b 0), .ref (fR M 104 7 + 8), .int (zI M b 0), .ref (fR M 104 7 + 8)] M v M' 0 0 := Ev.back 1 (fun n => rfl) H
  obtain ⟨b1, H⟩ := Ev.ial rfl rfl hS.1 (fx_h9 (hS.1.fr qa_104 qr_22_7).2) qw_16 H
  have H : Ev none e 58 161 [some (.ref 104), some (.int ti), some (.int bf), some (.int n), some (.int i), some (.ref b), some (.ref x), some (.int go), some (.int y)] [.int (rI M (fR M 104 7 + 8) (zI M b 0)), .int (zI M b 0), .ref (fR M 104 7 + 8)] M v M' 0 0 := H
  have H : Ev none e 58 163 [some (.ref 104), some (.int ti), some (.int bf), some (.int n), some (.int i), some (.ref b), some (.ref x), some (.int go), some (.int y)] [.int ((rI M (fR M 104 7 + 8) (zI M b 0)) + 1), .int (zI M b 0), .ref (fR M 104 7 + 8)] M v M' 0 0 := Ev.back 2 (fun n => rfl) H
  obtain ⟨b2, H⟩ := Ev.ias rfl rfl hS.1 (fx_h9 (hS.1.fr qa_104 qr_22_7).2) qw_16 H
  obtain ⟨N3, eN3⟩ : ∃ N, N = (wI M (fR M 104 7 + 8) ((zI M b 0).toNatClampNeg) ((rI M (fR M 104 7 + 8) (zI M b 0)) + 1)) := ⟨_, rfl⟩
  have hN3 : SQ N3 := by rw [eN3]; exact hS.ki
  have H : Ev none e 58 164 [some (.ref 104), some (.int ti), some (.int bf), some (.int n), some (.int i), some (.ref b), some (.ref x), some (.int go), some (.int y)] [] N3 v M' 0 0 := by rw [eN3]; exact H
  have H : Ev none e 58 167 [some (.ref 104), some (.int ti), some (.int bf), some (.int n), some (.int i), some (.ref b), some (.ref x), some (.int go), some (.int y)] [.ref b, .ref 104] N3 v M' 0 0 := Ev.back 2 (fun n => rfl) H
  have H : Ev none e 58 170 [some (.ref 104), some (.int ti), some (.int bf), some (.int n), some (.int i), some (.ref b), some (.ref x), some (.int go), some (.int y)] [.int (zI N3 b 0), .ref 104] N3 v M' 0 0 := Ev.back 1 (gs_3 rfl rfl (gf_i hN3.1 a_b qi_21_0 rfl)) H
  rw [show zI N3 b 0 = zI M b 0 from by rw [eN3]; exact fI_wI] at H
  obtain ⟨e1, rfl⟩ := Ev.dpos rfl rfl H
  obtain ⟨vK4, MK4, K4, H⟩ := Ev.callb (fun n_ => gs_7 rfl rfl (show gCal (.invokevirtual 144) 7 (.int (zI M b 0) :: .ref 104 :: []) N3 = some (.inr (62, [some (.ref 104), some (.int (zI M b 0)), none], [])) from by show @cond (Option ((List Value × Mem) ⊕ (Nat × Lo × List Value))) (true && gRecv N3 (.ref 104) 7 && gRoom [] && true) (some (.inr (62, [some (.ref 104), some (.int (zI M b 0)), none], []))) none = _; rw [recv_s hN3.1 qa_104 qo_22]; rfl)) H
  have K4 : Ev none e1 62 0 [some (.ref 104), some (.int (zI M b 0)), none] [] N3 vK4 MK4 0 0 := K4
  have HF := H
  subst eN3
  exact ⟨b1, b2, ⟨e1, vK4, MK4, rfl, K4, HF⟩⟩
theorem goo_173 {e : Nat} {M M' : Mem} {v : Option Value} {ti bf n i go : Int32} {b x : Nat} {c8 : Option Value} (hS : SQ M) (a_b : gNth sT b = some 21) (a_x : gNth sT x = some 20) (H : Ev none e 58 173 [some (.ref 104), some (.int ti), some (.int bf), some (.int n), some (.int i), some (.ref b), some (.ref x), some (.int go), c8] [] M v M' 0 0) : (∃ e1 v1 M1, e = e1 + 1 ∧ Ev none e1 60 0 [some (.ref 104), some (.ref b), some (.int go), none] [] (wF M b 2 ((zI M b 2) + 1)) v1 M1 0 0 ∧ Ev none e 58 192 [some (.ref 104), some (.int ti), some (.int bf), some (.int n), some (.int i), some (.ref b), some (.ref x), some (.int go), c8] (v1.toList ++ []) M1 v M' 0 0) := by
  have H : Ev none e 58 176 [some (.ref 104), some (.int ti), some (.int bf), some (.int n), some (.int i), some (.ref b), some (.ref x), some (.int go), c8] [.ref b, .ref b] M v M' 0 0 := Ev.back 2 (fun n => rfl) H
  have H : Ev none e 58 179 [some (.ref 104), some (.int ti), some (.int bf), some (.int n), some (.int i), some (.ref b), some (.ref x), some (.int go), c8] [.int (zI M b 2), .ref b] M v M' 0 0 := Ev.back 1 (gs_3 rfl rfl (gf_i hS.1 a_b qi_21_2 rfl)) H
  have H : Ev none e 58 181 [some (.ref 104), some (.int ti), some (.int bf), some (.int n), some (.int i), some (.ref b), some (.ref x), some (.int go), c8] [.int ((zI M b 2) + 1), .ref b] M v M' 0 0 := Ev.back 2 (fun n => rfl) H
  obtain ⟨N2, eN2⟩ : ∃ N, N = (wF M b 2 ((zI M b 2) + 1)) := ⟨_, rfl⟩
  have hN2 : SQ N2 := by rw [eN2]; exact hS.kf
  have H : Ev none e 58 184 [some (.ref 104), some (.int ti), some (.int bf), some (.int n), some (.int i), some (.ref b), some (.ref x), some (.int go), c8] [] N2 v M' 0 0 := by rw [eN2]; exact Ev.pfi rfl rfl rfl hS.1 a_b qi_21_2 H
  have H : Ev none e 58 189 [some (.ref 104), some (.int ti), some (.int bf), some (.int n), some (.int i), some (.ref b), some (.ref x), some (.int go), c8] [.int go, .ref b, .ref 104] N2 v M' 0 0 := Ev.back 3 (fun n => rfl) H
  obtain ⟨e1, rfl⟩ := Ev.dpos rfl rfl H
  obtain ⟨vK3, MK3, K3, H⟩ := Ev.callb (fun n_ => gs_7 rfl rfl (show gCal (.invokevirtual 151) 7 (.int go :: .ref b :: .ref 104 :: []) N2 = some (.inr (60, [some (.ref 104), some (.ref b), some (.int go), none], [])) from by show @cond (Option ((List Value × Mem) ⊕ (Nat × Lo × List Value))) (true && gRecv N2 (.ref 104) 7 && gRoom [] && true) (some (.inr (60, [some (.ref 104), some (.ref b), some (.int go), none], []))) none = _; rw [recv_s hN2.1 qa_104 qo_22]; rfl)) H
  have K3 : Ev none e1 60 0 [some (.ref 104), some (.ref b), some (.int go), none] [] N2 vK3 MK3 0 0 := K3
  have HF := H
  subst eN2
  exact ⟨e1, vK3, MK3, rfl, K3, HF⟩
theorem goo_192 {e : Nat} {M M' : Mem} {v : Option Value} {ti bf n i go : Int32} {b x : Nat} {c8 : Option Value} (hS : SQ M) (a_b : gNth sT b = some 21) (a_x : gNth sT x = some 20) (H : Ev none e 58 192 [some (.ref 104), some (.int ti), some (.int bf), some (.int n), some (.int i), some (.ref b), some (.ref x), some (.int go), c8] [] M v M' 0 0) : Ev none e 58 29 [some (.ref 104), some (.int ti), some (.int bf), some (.int n), some (.int (i + 1)), some (.ref b), some (.ref x), some (.int go), c8] [] M v M' 0 0 := by
  have H : Ev none e 58 29 [some (.ref 104), some (.int ti), some (.int bf), some (.int n), some (.int (i + 1)), some (.ref b), some (.ref x), some (.int go), c8] [] M v M' 0 0 := Ev.back 2 (fun n => rfl) H
  have HF := H
  exact HF
theorem goo_202 {e : Nat} {M M' : Mem} {v : Option Value} {ti bf n : Int32} {c4 c5 c6 c7 c8 : Option Value} (hS : SQ M) (H : Ev none e 58 202 [some (.ref 104), some (.int ti), some (.int bf), some (.int n), c4, c5, c6, c7, c8] [] M v M' 0 0) : Ev none e 58 10 [some (.ref 104), some (.int ti), some (.int bf), some (.int (n + 1)), c4, c5, c6, c7, c8] [] (wF M (fR M 104 7) 16 ((zI M (fR M 104 7) 16) + 1)) v M' 0 0 := by
  have H : Ev none e 58 203 [some (.ref 104), some (.int ti), some (.int bf), some (.int n), c4, c5, c6, c7, c8] [.ref 104] M v M' 0 0 := Ev.back 1 (fun n => rfl) H
  have H : Ev none e 58 206 [some (.ref 104), some (.int ti), some (.int bf), some (.int n), c4, c5, c6, c7, c8] [.ref (fR M 104 7)] M v M' 0 0 := Ev.back 1 (gs_3 rfl rfl (gf_r hS.1 qa_104 qr_22_7 rfl)) H
  have H : Ev none e 58 207 [some (.ref 104), some (.int ti), some (.int bf), some (.int n), c4, c5, c6, c7, c8] [.ref (fR M 104 7), .ref (fR M 104 7)] M v M' 0 0 := Ev.back 1 (fun n => rfl) H
  have H : Ev none e 58 210 [some (.ref 104), some (.int ti), some (.int bf), some (.int n), c4, c5, c6, c7, c8] [.int (zI M (fR M 104 7) 16), .ref (fR M 104 7)] M v M' 0 0 := Ev.back 1 (gs_3 rfl rfl (gf_i hS.1 (hS.1.fr qa_104 qr_22_7).2 qi_8_16 rfl)) H
  have H : Ev none e 58 212 [some (.ref 104), some (.int ti), some (.int bf), some (.int n), c4, c5, c6, c7, c8] [.int ((zI M (fR M 104 7) 16) + 1), .ref (fR M 104 7)] M v M' 0 0 := Ev.back 2 (fun n => rfl) H
  obtain ⟨N2, eN2⟩ : ∃ N, N = (wF M (fR M 104 7) 16 ((zI M (fR M 104 7) 16) + 1)) := ⟨_, rfl⟩
  have hN2 : SQ N2 := by rw [eN2]; exact hS.kf
  have H : Ev none e 58 215 [some (.ref 104), some (.int ti), some (.int bf), some (.int n), c4, c5, c6, c7, c8] [] N2 v M' 0 0 := by rw [eN2]; exact Ev.pfi rfl rfl rfl hS.1 (hS.1.fr qa_104 qr_22_7).2 qi_8_16 H
  have H : Ev none e 58 10 [some (.ref 104), some (.int ti), some (.int bf), some (.int (n + 1)), c4, c5, c6, c7, c8] [] N2 v M' 0 0 := Ev.back 2 (fun n => rfl) H
  have HF := H
  subst eN2
  exact HF
noncomputable def X_55 (M : Mem) : Mem := (wA M 128 (-1))
theorem g_55 {e : Nat} {M M' : Mem} {v : Option Value} (hS : SQ M) (H : Ev none e 55 0 [some (.ref 104)] [] M v M' 0 0) : v = none ∧ M' = X_55 M := by
  unfold X_55
  have H : Ev none e 55 1 [some (.ref 104)] [.ref 104] M v M' 0 0 := Ev.back 1 (fun n => rfl) H
  have H : Ev none e 55 4 [some (.ref 104)] [.ref 128] M v M' 0 0 := Ev.back 1 (gs_3 rfl rfl (gf_u hS.1 qa_104 qr_22_4 qu_37 rfl)) H
  have H : Ev none e 55 5 [some (.ref 104)] [.int (-1), .ref 128] M v M' 0 0 := Ev.back 1 (fun n => rfl) H
  have H := Ev.fil rfl rfl (fun _ _ => rfl) hS.1 qa_128 qw_37 H
  obtain ⟨N1, eN1⟩ : ∃ N, N = (wA M 128 (-1)) := ⟨_, rfl⟩
  have hN1 : SQ N1 := by rw [eN1]; exact hS.ka
  have H : Ev none e 55 8 [some (.ref 104)] [] N1 v M' 0 0 := by rw [eN1]; exact H
  obtain ⟨p1, p2⟩ := Ev.retb (fun n => rfl) H
  subst eN1
  exact ⟨p1, p2⟩
theorem X_55_sx {M : Mem} (hS : SQ M) : SQ (X_55 M) := by
  unfold X_55
  exact hS.ka
theorem ewk_0 {e : Nat} {M M' : Mem} {v : Option Value} (hS : SQ M) (H : Ev none e 63 0 [some (.ref 104), none, none] [] M v M' 0 0) : Ev none e 63 2 [some (.ref 104), some (.int 0), none] [] M v M' 0 0 := by
  have H : Ev none e 63 2 [some (.ref 104), some (.int 0), none] [] M v M' 0 0 := Ev.back 2 (fun n => rfl) H
  have HF := H
  exact HF
theorem ewk_2 {e : Nat} {M M' : Mem} {v : Option Value} {c : Int32} {c2 : Option Value} (hS : SQ M) (H : Ev none e 63 2 [some (.ref 104), some (.int c), c2] [] M v M' 0 0) : ((G_6 M (fR M 104 7)) ≤ c ∧ v = none ∧ M' = (X_55 (wA M (fR M 104 7 + 6) 0))) ∨ (¬ ((G_6 M (fR M 104 7)) ≤ c) ∧ (∃ e1 v1 M1, e = e1 + 1 ∧ Ev none e1 64 0 [some (.ref 104), some (.int 1), some (.int c), some (.int 10), none] [] M v1 M1 0 0 ∧ Ev none e 63 21 [some (.ref 104), some (.int c), c2] (v1.toList ++ []) M1 v M' 0 0)) := by
  have H : Ev none e 63 4 [some (.ref 104), some (.int c), c2] [.ref 104, .int c] M v M' 0 0 := Ev.back 2 (fun n => rfl) H
  have H : Ev none e 63 7 [some (.ref 104), some (.int c), c2] [.ref (fR M 104 7), .int c] M v M' 0 0 := Ev.back 1 (gs_3 rfl rfl (gf_r hS.1 qa_104 qr_22_7 rfl)) H
  obtain ⟨e1, rfl⟩ := Ev.dpos rfl rfl H
  obtain ⟨vK1, MK1, K1, H⟩ := Ev.callb (fun n_ => gs_7 rfl rfl (show gCal (.invokevirtual 90) 7 (.ref (fR M 104 7) :: [.int c]) M = some (.inr (6, [some (.ref (fR M 104 7))], [.int c])) from by show @cond (Option ((List Value × Mem) ⊕ (Nat × Lo × List Value))) (true && gRecv M (.ref (fR M 104 7)) 1 && gRoom [.int c] && true) (some (.inr (6, [some (.ref (fR M 104 7))], [.int c]))) none = _; rw [recv_s hS.1 (hS.1.fr qa_104 qr_22_7).2 qo_8]; rfl)) H
  obtain ⟨pK1, qK1⟩ := g_6 hS (hS.1.fr qa_104 qr_22_7).2 K1
  rw [pK1, qK1] at H
  have H : Ev none (e1 + 1) 63 10 [some (.ref 104), some (.int c), c2] [.int (G_6 M (fR M 104 7)), .int c] M v M' 0 0 := H
  have H : Ev none (e1 + 1) 63 (if (G_6 M (fR M 104 7)) ≤ c then 82 else 13) [some (.ref 104), some (.int c), c2] [] M v M' 0 0 := Ev.back 1 (fun n => rfl) H
  by_cases h2 : (G_6 M (fR M 104 7)) ≤ c
  · rw [if_pos h2] at H
    have H : Ev none (e1 + 1) 63 83 [some (.ref 104), some (.int c), c2] [.ref 104] M v M' 0 0 := Ev.back 1 (fun n => rfl) H
    have H : Ev none (e1 + 1) 63 86 [some (.ref 104), some (.int c), c2] [.ref (fR M 104 7)] M v M' 0 0 := Ev.back 1 (gs_3 rfl rfl (gf_r hS.1 qa_104 qr_22_7 rfl)) H
    have H : Ev none (e1 + 1) 63 89 [some (.ref 104), some (.int c), c2] [.ref (fR M 104 7 + 6)] M v M' 0 0 := Ev.back 1 (gs_3 rfl rfl (gf_x hS.1 (hS.1.fr qa_104 qr_22_7).2 qo_8 (fx_l7 hS (hS.1.fr qa_104 qr_22_7).2) rfl)) H
    have H : Ev none (e1 + 1) 63 90 [some (.ref 104), some (.int c), c2] [.int 0, .ref (fR M 104 7 + 6)] M v M' 0 0 := Ev.back 1 (fun n => rfl) H
    have H := Ev.fil rfl rfl (fun _ _ => rfl) hS.1 (fx_h7 (hS.1.fr qa_104 qr_22_7).2) qw_14 H
    obtain ⟨N3, eN3⟩ : ∃ N, N = (wA M (fR M 104 7 + 6) 0) := ⟨_, rfl⟩
    have hN3 : SQ N3 := by rw [eN3]; exact hS.ka
    have H : Ev none (e1 + 1) 63 93 [some (.ref 104), some (.int c), c2] [] N3 v M' 0 0 := by rw [eN3]; exact H
    have H : Ev none (e1 + 1) 63 94 [some (.ref 104), some (.int c), c2] [.ref 104] N3 v M' 0 0 := Ev.back 1 (fun n => rfl) H
    obtain ⟨vK4, MK4, K4, H⟩ := Ev.callb (fun n_ => gs_7 rfl rfl (show gCal (.invokevirtual 75) 7 (.ref 104 :: []) N3 = some (.inr (55, [some (.ref 104)], [])) from by show @cond (Option ((List Value × Mem) ⊕ (Nat × Lo × List Value))) (true && gRecv N3 (.ref 104) 7 && gRoom [] && true) (some (.inr (55, [some (.ref 104)], []))) none = _; rw [recv_s hN3.1 qa_104 qo_22]; rfl)) H
    obtain ⟨pK4, qK4⟩ := g_55 hN3 K4
    rw [pK4, qK4] at H
    obtain ⟨N5, eN5⟩ : ∃ N, N = (X_55 N3) := ⟨_, rfl⟩
    have hN5 : SQ N5 := by rw [eN5]; exact X_55_sx hN3
    rw [← eN5] at H
    have H : Ev none (e1 + 1) 63 97 [some (.ref 104), some (.int c), c2] [] N5 v M' 0 0 := H
    obtain ⟨z1, z2⟩ := Ev.retb (fun n => rfl) H
    subst eN3 eN5
    exact Or.inl ⟨h2, z1, z2⟩
  · rw [if_neg h2] at H
    have H : Ev none (e1 + 1) 63 18 [some (.ref 104), some (.int c), c2] [.int 10, .int c, .int 1, .ref 104] M v M' 0 0 := Ev.back 4 (fun n => rfl) H
    obtain ⟨vK6, MK6, K6, H⟩ := Ev.callb (fun n_ => gs_7 rfl rfl (show gCal (.invokevirtual 181) 7 (.int 10 :: .int c :: .int 1 :: .ref 104 :: []) M = some (.inr (64, [some (.ref 104), some (.int 1), some (.int c), some (.int 10), none], [])) from by show @cond (Option ((List Value × Mem) ⊕ (Nat × Lo × List Value))) (true && gRecv M (.ref 104) 7 && gRoom [] && true) (some (.inr (64, [some (.ref 104), some (.int 1), some (.int c), some (.int 10), none], []))) none = _; rw [recv_s hS.1 qa_104 qo_22]; rfl)) H
    have K6 : Ev none e1 64 0 [some (.ref 104), some (.int 1), some (.int c), some (.int 10), none] [] M vK6 MK6 0 0 := K6
    have HF := H
    exact Or.inr (⟨h2, ⟨e1, vK6, MK6, rfl, K6, HF⟩⟩)
theorem ewk_21 {e : Nat} {M M' : Mem} {v : Option Value} {c y : Int32} {c2 : Option Value} (hS : SQ M) (H : Ev none e 63 21 [some (.ref 104), some (.int c), c2] [.int y] M v M' 0 0) : (0 ≤ c.toInt ∧ c.toInt < 256) ∧ (0 ≤ c.toInt ∧ c.toInt < 256) ∧ (0 ≤ c.toInt ∧ c.toInt < 256) ∧ (0 ≤ c.toInt ∧ c.toInt < 256) ∧ Ev none e 63 2 [some (.ref 104), some (.int (c + 1)), some (.int y)] [] (wI (wI M (fR M 104 7 + 4) c.toNatClampNeg (if 0 < ((rI M (fR M 104 7 + 4) c) - y) then ((rI M (fR M 104 7 + 4) c) - y) else 0)) (fR M 104 7 + 5) c.toNatClampNeg (if 0 < ((rI M (fR M 104 7 + 5) c) - (zI M (fR M 104 2) 12)) then ((rI M (fR M 104 7 + 5) c) - (zI M (fR M 104 2) 12)) else 0)) v M' 0 0 := by
  have H : Ev none e 63 23 [some (.ref 104), some (.int c), some (.int y)] [.ref 104] M v M' 0 0 := Ev.back 2 (fun n => rfl) H
  have H : Ev none e 63 26 [some (.ref 104), some (.int c), some (.int y)] [.ref (fR M 104 7)] M v M' 0 0 := Ev.back 1 (gs_3 rfl rfl (gf_r hS.1 qa_104 qr_22_7 rfl)) H
  have H : Ev none e 63 29 [some (.ref 104), some (.int c), some (.int y)] [.ref (fR M 104 7 + 4)] M v M' 0 0 := Ev.back 1 (gs_3 rfl rfl (gf_x hS.1 (hS.1.fr qa_104 qr_22_7).2 qo_8 (fx_l5 hS (hS.1.fr qa_104 qr_22_7).2) rfl)) H
  have H : Ev none e 63 32 [some (.ref 104), some (.int c), some (.int y)] [.ref 104, .int 0, .int c, .ref (fR M 104 7 + 4)] M v M' 0 0 := Ev.back 3 (fun n => rfl) H
  have H : Ev none e 63 35 [some (.ref 104), some (.int c), some (.int y)] [.ref (fR M 104 7), .int 0, .int c, .ref (fR M 104 7 + 4)] M v M' 0 0 := Ev.back 1 (gs_3 rfl rfl (gf_r hS.1 qa_104 qr_22_7 rfl)) H
  have H : Ev none e 63 38 [some (.ref 104), some (.int c), some (.int y)] [.ref (fR M 104 7 + 4), .int 0, .int c, .ref (fR M 104 7 + 4)] M v M' 0 0 := Ev.back 1 (gs_3 rfl rfl (gf_x hS.1 (hS.1.fr qa_104 qr_22_7).2 qo_8 (fx_l5 hS (hS.1.fr qa_104 qr_22_7).2) rfl)) H
  have H : Ev none e 63 39 [some (.ref 104), some (.int c), some (.int y)] [.int c, .ref (fR M 104 7 + 4), .int 0, .int c, .ref (fR M 104 7 + 4)] M v M' 0 0 := Ev.back 1 (fun n => rfl) H
  obtain ⟨b1, H⟩ := Ev.ial rfl rfl hS.1 (fx_h5 (hS.1.fr qa_104 qr_22_7).2) qw_12 H
  have H : Ev none e 63 40 [some (.ref 104), some (.int c), some (.int y)] [.int (rI M (fR M 104 7 + 4) c), .int 0, .int c, .ref (fR M 104 7 + 4)] M v M' 0 0 := H
  have H : Ev none e 63 42 [some (.ref 104), some (.int c), some (.int y)] [.int ((rI M (fR M 104 7 + 4) c) - y), .int 0, .int c, .ref (fR M 104 7 + 4)] M v M' 0 0 := Ev.back 2 (fun n => rfl) H
  obtain ⟨e1, rfl⟩ := Ev.dpos rfl rfl H
  have H : Ev none (e1 + 1) 63 45 [some (.ref 104), some (.int c), some (.int y)] [.int (if 0 < ((rI M (fR M 104 7 + 4) c) - y) then ((rI M (fR M 104 7 + 4) c) - y) else 0), .int c, .ref (fR M 104 7 + 4)] M v M' 0 0 := Ev.back 1 (fun n => rfl) H
  obtain ⟨b2, H⟩ := Ev.ias rfl rfl hS.1 (fx_h5 (hS.1.fr qa_104 qr_22_7).2) qw_12 H
  obtain ⟨N3, eN3⟩ : ∃ N, N = (wI M (fR M 104 7 + 4) c.toNatClampNeg (if 0 < ((rI M (fR M 104 7 + 4) c) - y) then ((rI M (fR M 104 7 + 4) c) - y) else 0)) := ⟨_, rfl⟩
  have hN3 : SQ N3 := by rw [eN3]; exact hS.ki
  have H : Ev none (e1 + 1) 63 46 [some (.ref 104), some (.int c), some (.int y)] [] N3 v M' 0 0 := by rw [eN3]; exact H
  have H : Ev none (e1 + 1) 63 47 [some (.ref 104), some (.int c), some (.int y)] [.ref 104] N3 v M' 0 0 := Ev.back 1 (fun n => rfl) H
  have H : Ev none (e1 + 1) 63 50 [some (.ref 104), some (.int c), some (.int y)] [.ref (fR N3 104 7)] N3 v M' 0 0 := Ev.back 1 (gs_3 rfl rfl (gf_r hN3.1 qa_104 qr_22_7 rfl)) H
  rw [show fR N3 104 7 = fR M 104 7 from by rw [eN3]; exact fR_wI] at H
  have H : Ev none (e1 + 1) 63 53 [some (.ref 104), some (.int c), some (.int y)] [.ref (fR M 104 7 + 5)] N3 v M' 0 0 := Ev.back 1 (gs_3 rfl rfl (gf_x hN3.1 (hS.1.fr qa_104 qr_22_7).2 qo_8 (fx_l6 hN3 (hS.1.fr qa_104 qr_22_7).2) rfl)) H
  have H : Ev none (e1 + 1) 63 56 [some (.ref 104), some (.int c), some (.int y)] [.ref 104, .int 0, .int c, .ref (fR M 104 7 + 5)] N3 v M' 0 0 := Ev.back 3 (fun n => rfl) H
  have H : Ev none (e1 + 1) 63 59 [some (.ref 104), some (.int c), some (.int y)] [.ref (fR N3 104 7), .int 0, .int c, .ref (fR M 104 7 + 5)] N3 v M' 0 0 := Ev.back 1 (gs_3 rfl rfl (gf_r hN3.1 qa_104 qr_22_7 rfl)) H
  rw [show fR N3 104 7 = fR M 104 7 from by rw [eN3]; exact fR_wI] at H
  have H : Ev none (e1 + 1) 63 62 [some (.ref 104), some (.int c), some (.int y)] [.ref (fR M 104 7 + 5), .int 0, .int c, .ref (fR M 104 7 + 5)] N3 v M' 0 0 := Ev.back 1 (gs_3 rfl rfl (gf_x hN3.1 (hS.1.fr qa_104 qr_22_7).2 qo_8 (fx_l6 hN3 (hS.1.fr qa_104 qr_22_7).2) rfl)) H
  have H : Ev none (e1 + 1) 63 63 [some (.ref 104), some (.int c), some (.int y)] [.int c, .ref (fR M 104 7 + 5), .int 0, .int c, .ref (fR M 104 7 + 5)] N3 v M' 0 0 := Ev.back 1 (fun n => rfl) H
  obtain ⟨b4, H⟩ := Ev.ial rfl rfl hN3.1 (fx_h6 (hS.1.fr qa_104 qr_22_7).2) qw_13 H
  have H : Ev none (e1 + 1) 63 64 [some (.ref 104), some (.int c), some (.int y)] [.int (rI N3 (fR M 104 7 + 5) c), .int 0, .int c, .ref (fR M 104 7 + 5)] N3 v M' 0 0 := H
  rw [show rI N3 (fR M 104 7 + 5) c = rI M (fR M 104 7 + 5) c from by rw [eN3]; exact rN_wI_ne (fun q => absurd q.1 (by omega))] at H
  have H : Ev none (e1 + 1) 63 65 [some (.ref 104), some (.int c), some (.int y)] [.ref 104, .int (rI M (fR M 104 7 + 5) c), .int 0, .int c, .ref (fR M 104 7 + 5)] N3 v M' 0 0 := Ev.back 1 (fun n => rfl) H
  have H : Ev none (e1 + 1) 63 68 [some (.ref 104), some (.int c), some (.int y)] [.ref (fR N3 104 2), .int (rI M (fR M 104 7 + 5) c), .int 0, .int c, .ref (fR M 104 7 + 5)] N3 v M' 0 0 := Ev.back 1 (gs_3 rfl rfl (gf_r hN3.1 qa_104 qr_22_2 rfl)) H
  rw [show fR N3 104 2 = fR M 104 2 from by rw [eN3]; exact fR_wI] at H
  have hx5 : gNth sT (fR M 104 2) = some 28 := by rw [← show fR N3 104 2 = fR M 104 2 from by rw [eN3]; exact fR_wI]; exact (hN3.1.fr qa_104 qr_22_2).2
  have H : Ev none (e1 + 1) 63 71 [some (.ref 104), some (.int c), some (.int y)] [.int (zI N3 (fR M 104 2) 12), .int (rI M (fR M 104 7 + 5) c), .int 0, .int c, .ref (fR M 104 7 + 5)] N3 v M' 0 0 := Ev.back 1 (gs_3 rfl rfl (gf_i hN3.1 hx5 qi_28_12 rfl)) H
  rw [show zI N3 (fR M 104 2) 12 = zI M (fR M 104 2) 12 from by rw [eN3]; exact fI_wI] at H
  have H : Ev none (e1 + 1) 63 75 [some (.ref 104), some (.int c), some (.int y)] [.int (if 0 < ((rI M (fR M 104 7 + 5) c) - (zI M (fR M 104 2) 12)) then ((rI M (fR M 104 7 + 5) c) - (zI M (fR M 104 2) 12)) else 0), .int c, .ref (fR M 104 7 + 5)] N3 v M' 0 0 := Ev.back 2 (fun n => rfl) H
  obtain ⟨b6, H⟩ := Ev.ias rfl rfl hN3.1 (fx_h6 (hS.1.fr qa_104 qr_22_7).2) qw_13 H
  obtain ⟨N7, eN7⟩ : ∃ N, N = (wI N3 (fR M 104 7 + 5) c.toNatClampNeg (if 0 < ((rI M (fR M 104 7 + 5) c) - (zI M (fR M 104 2) 12)) then ((rI M (fR M 104 7 + 5) c) - (zI M (fR M 104 2) 12)) else 0)) := ⟨_, rfl⟩
  have hN7 : SQ N7 := by rw [eN7]; exact hN3.ki
  have H : Ev none (e1 + 1) 63 76 [some (.ref 104), some (.int c), some (.int y)] [] N7 v M' 0 0 := by rw [eN7]; exact H
  have H : Ev none (e1 + 1) 63 2 [some (.ref 104), some (.int (c + 1)), some (.int y)] [] N7 v M' 0 0 := Ev.back 2 (fun n => rfl) H
  have HF := H
  subst eN3 eN7
  exact ⟨b1, b2, b4, b6, HF⟩
theorem wcl_0 {e : Nat} {M M' : Mem} {v : Option Value} (hS : SQ M) (H : Ev none e 57 0 [some (.ref 104), none, none] [] M v M' 0 0) : Ev none e 57 4 [some (.ref 104), some (.int 0), some (.int 0)] [] M v M' 0 0 := by
  have H : Ev none e 57 4 [some (.ref 104), some (.int 0), some (.int 0)] [] M v M' 0 0 := Ev.back 4 (fun n => rfl) H
  have HF := H
  exact HF
theorem wcl_4 {e : Nat} {M M' : Mem} {v : Option Value} {n c : Int32} (hS : SQ M) (H : Ev none e 57 4 [some (.ref 104), some (.int n), some (.int c)] [] M v M' 0 0) : ((G_6 M (fR M 104 7)) ≤ c ∧ v = some (.int n) ∧ M' = M) ∨ (¬ ((G_6 M (fR M 104 7)) ≤ c) ∧ (G_56 M c) = 0 ∧ Ev none e 57 4 [some (.ref 104), some (.int (n + 0)), some (.int (c + 1))] [] M v M' 0 0) ∨ (¬ ((G_6 M (fR M 104 7)) ≤ c) ∧ ¬ ((G_56 M c) = 0) ∧ Ev none e 57 4 [some (.ref 104), some (.int (n + 1)), some (.int (c + 1))] [] M v M' 0 0) := by
  have H : Ev none e 57 6 [some (.ref 104), some (.int n), some (.int c)] [.ref 104, .int c] M v M' 0 0 := Ev.back 2 (fun n => rfl) H
  have H : Ev none e 57 9 [some (.ref 104), some (.int n), some (.int c)] [.ref (fR M 104 7), .int c] M v M' 0 0 := Ev.back 1 (gs_3 rfl rfl (gf_r hS.1 qa_104 qr_22_7 rfl)) H
  obtain ⟨e1, rfl⟩ := Ev.dpos rfl rfl H
  obtain ⟨vK1, MK1, K1, H⟩ := Ev.callb (fun n_ => gs_7 rfl rfl (show gCal (.invokevirtual 90) 7 (.ref (fR M 104 7) :: [.int c]) M = some (.inr (6, [some (.ref (fR M 104 7))], [.int c])) from by show @cond (Option ((List Value × Mem) ⊕ (Nat × Lo × List Value))) (true && gRecv M (.ref (fR M 104 7)) 1 && gRoom [.int c] && true) (some (.inr (6, [some (.ref (fR M 104 7))], [.int c]))) none = _; rw [recv_s hS.1 (hS.1.fr qa_104 qr_22_7).2 qo_8]; rfl)) H
  obtain ⟨pK1, qK1⟩ := g_6 hS (hS.1.fr qa_104 qr_22_7).2 K1
  rw [pK1, qK1] at H
  have H : Ev none (e1 + 1) 57 12 [some (.ref 104), some (.int n), some (.int c)] [.int (G_6 M (fR M 104 7)), .int c] M v M' 0 0 := H
  have H : Ev none (e1 + 1) 57 (if (G_6 M (fR M 104 7)) ≤ c then 37 else 15) [some (.ref 104), some (.int n), some (.int c)] [] M v M' 0 0 := Ev.back 1 (fun n => rfl) H
  by_cases h2 : (G_6 M (fR M 104 7)) ≤ c
  · rw [if_pos h2] at H
    have H : Ev none (e1 + 1) 57 38 [some (.ref 104), some (.int n), some (.int c)] [.int n] M v M' 0 0 := Ev.back 1 (fun n => rfl) H
    obtain ⟨z1, z2⟩ := Ev.retz rfl rfl H
    exact Or.inl ⟨h2, z1, z2⟩
  · rw [if_neg h2] at H
    have H : Ev none (e1 + 1) 57 18 [some (.ref 104), some (.int n), some (.int c)] [.int c, .ref 104, .int n] M v M' 0 0 := Ev.back 3 (fun n => rfl) H
    obtain ⟨vK3, MK3, K3, H⟩ := Ev.callb (fun n_ => gs_7 rfl rfl (show gCal (.invokevirtual 94) 7 (.int c :: .ref 104 :: [.int n]) M = some (.inr (56, [some (.ref 104), some (.int c)], [.int n])) from by show @cond (Option ((List Value × Mem) ⊕ (Nat × Lo × List Value))) (true && gRecv M (.ref 104) 7 && gRoom [.int n] && true) (some (.inr (56, [some (.ref 104), some (.int c)], [.int n]))) none = _; rw [recv_s hS.1 qa_104 qo_22]; rfl)) H
    obtain ⟨pK3, qK3⟩ := g_56 hS K3
    rw [pK3, qK3] at H
    have H : Ev none (e1 + 1) 57 21 [some (.ref 104), some (.int n), some (.int c)] [.int (G_56 M c), .int n] M v M' 0 0 := H
    have H : Ev none (e1 + 1) 57 (if (G_56 M c) = 0 then 28 else 24) [some (.ref 104), some (.int n), some (.int c)] [.int n] M v M' 0 0 := Ev.back 1 (fun n => rfl) H
    by_cases h4 : (G_56 M c) = 0
    · rw [if_pos h4] at H
      have H : Ev none (e1 + 1) 57 4 [some (.ref 104), some (.int (n + 0)), some (.int (c + 1))] [] M v M' 0 0 := Ev.back 5 (fun n => rfl) H
      have HF := H
      exact Or.inr (Or.inl ⟨h2, h4, HF⟩)
    · rw [if_neg h4] at H
      have H : Ev none (e1 + 1) 57 4 [some (.ref 104), some (.int (n + 1)), some (.int (c + 1))] [] M v M' 0 0 := Ev.back 6 (fun n => rfl) H
      have HF := H
      exact Or.inr (Or.inr (⟨h2, h4, HF⟩))
noncomputable def G_2 (M : Mem) (co : Int32) (ro : Int32) : Int32 := if (G_126 M co 0 ((zI M 105 3) - 1)) = 0 then (-1) else (if (G_126 M ro 0 ((zI M 105 4) - 1)) = 0 then (-1) else ((zI M 105 3) * ro) + co)
theorem g_2 {e : Nat} {M M' : Mem} {v : Option Value} {co ro : Int32} (hS : SQ M) (H : Ev none e 2 0 [some (.ref 105), some (.int co), some (.int ro)] [] M v M' 0 0) : v = some (.int (G_2 M co ro)) ∧ M' = M := by
  unfold G_2
  have H : Ev none e 2 3 [some (.ref 105), some (.int co), some (.int ro)] [.ref 105, .int 0, .int co] M v M' 0 0 := Ev.back 3 (fun n => rfl) H
  have H : Ev none e 2 6 [some (.ref 105), some (.int co), some (.int ro)] [.int (zI M 105 3), .int 0, .int co] M v M' 0 0 := Ev.back 1 (gs_3 rfl rfl (gf_i hS.1 qa_105 qi_23_3 rfl)) H
  have H : Ev none e 2 8 [some (.ref 105), some (.int co), some (.int ro)] [.int ((zI M 105 3) - 1), .int 0, .int co] M v M' 0 0 := Ev.back 2 (fun n => rfl) H
  obtain ⟨e1, rfl⟩ := Ev.dpos rfl rfl H
  obtain ⟨vK1, MK1, K1, H⟩ := Ev.callb (fun n => rfl) H
  obtain ⟨pK1, qK1⟩ := g_126 hS K1
  rw [pK1, qK1] at H
  have H : Ev none (e1 + 1) 2 11 [some (.ref 105), some (.int co), some (.int ro)] [.int (G_126 M co 0 ((zI M 105 3) - 1))] M v M' 0 0 := H
  have H : Ev none (e1 + 1) 2 (if (G_126 M co 0 ((zI M 105 3) - 1)) = 0 then 39 else 14) [some (.ref 105), some (.int co), some (.int ro)] [] M v M' 0 0 := Ev.back 1 (fun n => rfl) H
  by_cases h2 : (G_126 M co 0 ((zI M 105 3) - 1)) = 0
  · rw [if_pos h2] at H
    have H : Ev none (e1 + 1) 2 40 [some (.ref 105), some (.int co), some (.int ro)] [.int (-1)] M v M' 0 0 := Ev.back 1 (fun n => rfl) H
    obtain ⟨p1, p2⟩ := Ev.retz rfl rfl H
    exact ⟨by rw [if_pos h2]; exact p1, p2⟩
  · rw [if_neg h2] at H
    have H : Ev none (e1 + 1) 2 17 [some (.ref 105), some (.int co), some (.int ro)] [.ref 105, .int 0, .int ro] M v M' 0 0 := Ev.back 3 (fun n => rfl) H
    have H : Ev none (e1 + 1) 2 20 [some (.ref 105), some (.int co), some (.int ro)] [.int (zI M 105 4), .int 0, .int ro] M v M' 0 0 := Ev.back 1 (gs_3 rfl rfl (gf_i hS.1 qa_105 qi_23_4 rfl)) H
    have H : Ev none (e1 + 1) 2 22 [some (.ref 105), some (.int co), some (.int ro)] [.int ((zI M 105 4) - 1), .int 0, .int ro] M v M' 0 0 := Ev.back 2 (fun n => rfl) H
    obtain ⟨vK3, MK3, K3, H⟩ := Ev.callb (fun n => rfl) H
    obtain ⟨pK3, qK3⟩ := g_126 hS K3
    rw [pK3, qK3] at H
    have H : Ev none (e1 + 1) 2 25 [some (.ref 105), some (.int co), some (.int ro)] [.int (G_126 M ro 0 ((zI M 105 4) - 1))] M v M' 0 0 := H
    have H : Ev none (e1 + 1) 2 (if (G_126 M ro 0 ((zI M 105 4) - 1)) = 0 then 39 else 28) [some (.ref 105), some (.int co), some (.int ro)] [] M v M' 0 0 := Ev.back 1 (fun n => rfl) H
    by_cases h4 : (G_126 M ro 0 ((zI M 105 4) - 1)) = 0
    · rw [if_pos h4] at H
      have H : Ev none (e1 + 1) 2 40 [some (.ref 105), some (.int co), some (.int ro)] [.int (-1)] M v M' 0 0 := Ev.back 1 (fun n => rfl) H
      obtain ⟨p1, p2⟩ := Ev.retz rfl rfl H
      exact ⟨by rw [if_neg h2, if_pos h4]; exact p1, p2⟩
    · rw [if_neg h4] at H
      have H : Ev none (e1 + 1) 2 29 [some (.ref 105), some (.int co), some (.int ro)] [.ref 105] M v M' 0 0 := Ev.back 1 (fun n => rfl) H
      have H : Ev none (e1 + 1) 2 32 [some (.ref 105), some (.int co), some (.int ro)] [.int (zI M 105 3)] M v M' 0 0 := Ev.back 1 (gs_3 rfl rfl (gf_i hS.1 qa_105 qi_23_3 rfl)) H
      have H : Ev none (e1 + 1) 2 40 [some (.ref 105), some (.int co), some (.int ro)] [.int (((zI M 105 3) * ro) + co)] M v M' 0 0 := Ev.back 5 (fun n => rfl) H
      obtain ⟨p1, p2⟩ := Ev.retz rfl rfl H
      exact ⟨by rw [if_neg h2, if_neg h4]; exact p1, p2⟩
theorem shp_0 {e : Nat} {M M' : Mem} {v : Option Value} {wi de : Int32} (hS : SQ M) (H : Ev none e 1 0 [some (.ref 105), some (.int wi), some (.int de), none, none] [] M v M' 0 0) : (wi = (zI M 105 3) ∧ de = (zI M 105 4) ∧ v = none ∧ M' = M) ∨ (wi = (zI M 105 3) ∧ ¬ (de = (zI M 105 4)) ∧ Ev none e 1 29 [some (.ref 105), some (.int wi), some (.int de), some (.int 0), none] [] (wF (wF M 105 3 wi) 105 4 de) v M' 0 0) ∨ (¬ (wi = (zI M 105 3)) ∧ Ev none e 1 29 [some (.ref 105), some (.int wi), some (.int de), some (.int 0), none] [] (wF (wF M 105 3 wi) 105 4 de) v M' 0 0) := by
  have H : Ev none e 1 2 [some (.ref 105), some (.int wi), some (.int de), none, none] [.ref 105, .int wi] M v M' 0 0 := Ev.back 2 (fun n => rfl) H
  have H : Ev none e 1 5 [some (.ref 105), some (.int wi), some (.int de), none, none] [.int (zI M 105 3), .int wi] M v M' 0 0 := Ev.back 1 (gs_3 rfl rfl (gf_i hS.1 qa_105 qi_23_3 rfl)) H
  have H : Ev none e 1 (if wi = (zI M 105 3) then 8 else 17) [some (.ref 105), some (.int wi), some (.int de), none, none] [] M v M' 0 0 := Ev.back 1 (fun n => rfl) H
  by_cases h1 : wi = (zI M 105 3)
  · rw [if_pos h1] at H
    have H : Ev none e 1 10 [some (.ref 105), some (.int wi), some (.int de), none, none] [.ref 105, .int de] M v M' 0 0 := Ev.back 2 (fun n => rfl) H
    have H : Ev none e 1 13 [some (.ref 105), some (.int wi), some (.int de), none, none] [.int (zI M 105 4), .int de] M v M' 0 0 := Ev.back 1 (gs_3 rfl rfl (gf_i hS.1 qa_105 qi_23_4 rfl)) H
    have H : Ev none e 1 (if de = (zI M 105 4) then 16 else 17) [some (.ref 105), some (.int wi), some (.int de), none, none] [] M v M' 0 0 := Ev.back 1 (fun n => rfl) H
    by_cases h2 : de = (zI M 105 4)
    · rw [if_pos h2] at H
      obtain ⟨z1, z2⟩ := Ev.retb (fun n => rfl) H
      exact Or.inl ⟨h1, h2, z1, z2⟩
    · rw [if_neg h2] at H
      have H : Ev none e 1 19 [some (.ref 105), some (.int wi), some (.int de), none, none] [.int wi, .ref 105] M v M' 0 0 := Ev.back 2 (fun n => rfl) H
      obtain ⟨N4, eN4⟩ : ∃ N, N = (wF M 105 3 wi) := ⟨_, rfl⟩
      have hN4 : SQ N4 := by rw [eN4]; exact hS.kf
      have H : Ev none e 1 22 [some (.ref 105), some (.int wi), some (.int de), none, none] [] N4 v M' 0 0 := by rw [eN4]; exact Ev.pfi rfl rfl rfl hS.1 qa_105 qi_23_3 H
      have H : Ev none e 1 24 [some (.ref 105), some (.int wi), some (.int de), none, none] [.int de, .ref 105] N4 v M' 0 0 := Ev.back 2 (fun n => rfl) H
      obtain ⟨N6, eN6⟩ : ∃ N, N = (wF N4 105 4 de) := ⟨_, rfl⟩
      have hN6 : SQ N6 := by rw [eN6]; exact hN4.kf
      have H : Ev none e 1 27 [some (.ref 105), some (.int wi), some (.int de), none, none] [] N6 v M' 0 0 := by rw [eN6]; exact Ev.pfi rfl rfl rfl hN4.1 qa_105 qi_23_4 H
      have H : Ev none e 1 29 [some (.ref 105), some (.int wi), some (.int de), some (.int 0), none] [] N6 v M' 0 0 := Ev.back 2 (fun n => rfl) H
      have HF := H
      subst eN4 eN6
      exact Or.inr (Or.inl ⟨h1, h2, HF⟩)
  · rw [if_neg h1] at H
    have H : Ev none e 1 19 [some (.ref 105), some (.int wi), some (.int de), none, none] [.int wi, .ref 105] M v M' 0 0 := Ev.back 2 (fun n => rfl) H
    obtain ⟨N8, eN8⟩ : ∃ N, N = (wF M 105 3 wi) := ⟨_, rfl⟩
    have hN8 : SQ N8 := by rw [eN8]; exact hS.kf
    have H : Ev none e 1 22 [some (.ref 105), some (.int wi), some (.int de), none, none] [] N8 v M' 0 0 := by rw [eN8]; exact Ev.pfi rfl rfl rfl hS.1 qa_105 qi_23_3 H
    have H : Ev none e 1 24 [some (.ref 105), some (.int wi), some (.int de), none, none] [.int de, .ref 105] N8 v M' 0 0 := Ev.back 2 (fun n => rfl) H
    obtain ⟨N10, eN10⟩ : ∃ N, N = (wF N8 105 4 de) := ⟨_, rfl⟩
    have hN10 : SQ N10 := by rw [eN10]; exact hN8.kf
    have H : Ev none e 1 27 [some (.ref 105), some (.int wi), some (.int de), none, none] [] N10 v M' 0 0 := by rw [eN10]; exact Ev.pfi rfl rfl rfl hN8.1 qa_105 qi_23_4 H
    have H : Ev none e 1 29 [some (.ref 105), some (.int wi), some (.int de), some (.int 0), none] [] N10 v M' 0 0 := Ev.back 2 (fun n => rfl) H
    have HF := H
    subst eN8 eN10
    exact Or.inr (Or.inr (⟨h1, HF⟩))
theorem shp_29 {e : Nat} {M M' : Mem} {v : Option Value} {wi de c : Int32} {c4 : Option Value} (hS : SQ M) (H : Ev none e 1 29 [some (.ref 105), some (.int wi), some (.int de), some (.int c), c4] [] M v M' 0 0) : (((zI M 105 3) * (zI M 105 4)) ≤ c ∧ v = none ∧ M' = M) ∨ (¬ (((zI M 105 3) * (zI M 105 4)) ≤ c) ∧ 256 ≤ c ∧ v = none ∧ M' = M) ∨ (¬ (((zI M 105 3) * (zI M 105 4)) ≤ c) ∧ ¬ (256 ≤ c) ∧ ¬ (zI M 105 3) = 0 ∧ (0 ≤ c.toInt ∧ c.toInt < 256) ∧ ¬ (zI M 105 3) = 0 ∧ (0 ≤ c.toInt ∧ c.toInt < 256) ∧ Ev none e 1 76 [some (.ref 105), some (.int wi), some (.int de), some (.int c), some (.int 0)] [] (wI (wI M 106 c.toNatClampNeg (c - c / (zI M 105 3) * (zI M 105 3))) 107 c.toNatClampNeg (c / (zI M 105 3))) v M' 0 0) := by
  have H : Ev none e 1 31 [some (.ref 105), some (.int wi), some (.int de), some (.int c), c4] [.ref 105, .int c] M v M' 0 0 := Ev.back 2 (fun n => rfl) H
  have H : Ev none e 1 34 [some (.ref 105), some (.int wi), some (.int de), some (.int c), c4] [.int (zI M 105 3), .int c] M v M' 0 0 := Ev.back 1 (gs_3 rfl rfl (gf_i hS.1 qa_105 qi_23_3 rfl)) H
  have H : Ev none e 1 35 [some (.ref 105), some (.int wi), some (.int de), some (.int c), c4] [.ref 105, .int (zI M 105 3), .int c] M v M' 0 0 := Ev.back 1 (fun n => rfl) H
  have H : Ev none e 1 38 [some (.ref 105), some (.int wi), some (.int de), some (.int c), c4] [.int (zI M 105 4), .int (zI M 105 3), .int c] M v M' 0 0 := Ev.back 1 (gs_3 rfl rfl (gf_i hS.1 qa_105 qi_23_4 rfl)) H
  have H : Ev none e 1 (if ((zI M 105 3) * (zI M 105 4)) ≤ c then 137 else 42) [some (.ref 105), some (.int wi), some (.int de), some (.int c), c4] [] M v M' 0 0 := Ev.back 2 (fun n => rfl) H
  by_cases h1 : ((zI M 105 3) * (zI M 105 4)) ≤ c
  · rw [if_pos h1] at H
    obtain ⟨z1, z2⟩ := Ev.retb (fun n => rfl) H
    exact Or.inl ⟨h1, z1, z2⟩
  · rw [if_neg h1] at H
    have H : Ev none e 1 (if 256 ≤ c then 137 else 49) [some (.ref 105), some (.int wi), some (.int de), some (.int c), c4] [] M v M' 0 0 := Ev.back 3 (fun n => rfl) H
    by_cases h2 : 256 ≤ c
    · rw [if_pos h2] at H
      obtain ⟨z1, z2⟩ := Ev.retb (fun n => rfl) H
      exact Or.inr (Or.inl ⟨h1, h2, z1, z2⟩)
    · rw [if_neg h2] at H
      have H : Ev none e 1 50 [some (.ref 105), some (.int wi), some (.int de), some (.int c), c4] [.ref 105] M v M' 0 0 := Ev.back 1 (fun n => rfl) H
      have H : Ev none e 1 53 [some (.ref 105), some (.int wi), some (.int de), some (.int c), c4] [.ref 106] M v M' 0 0 := Ev.back 1 (gs_3 rfl rfl (gf_u hS.1 qa_105 qr_23_0 qu_24 rfl)) H
      have H : Ev none e 1 56 [some (.ref 105), some (.int wi), some (.int de), some (.int c), c4] [.ref 105, .int c, .int c, .ref 106] M v M' 0 0 := Ev.back 3 (fun n => rfl) H
      have H : Ev none e 1 59 [some (.ref 105), some (.int wi), some (.int de), some (.int c), c4] [.int (zI M 105 3), .int c, .int c, .ref 106] M v M' 0 0 := Ev.back 1 (gs_3 rfl rfl (gf_i hS.1 qa_105 qi_23_3 rfl)) H
      obtain ⟨nz3, H⟩ := rm_i H rfl rfl
      have H : Ev none e 1 60 [some (.ref 105), some (.int wi), some (.int de), some (.int c), c4] [.int (c - c / (zI M 105 3) * (zI M 105 3)), .int c, .ref 106] M v M' 0 0 := H
      obtain ⟨b4, H⟩ := Ev.ias rfl rfl hS.1 qa_106 qw_24 H
      obtain ⟨N5, eN5⟩ : ∃ N, N = (wI M 106 c.toNatClampNeg (c - c / (zI M 105 3) * (zI M 105 3))) := ⟨_, rfl⟩
      have hN5 : SQ N5 := by rw [eN5]; exact hS.ki
      have H : Ev none e 1 61 [some (.ref 105), some (.int wi), some (.int de), some (.int c), c4] [] N5 v M' 0 0 := by rw [eN5]; exact H
      have H : Ev none e 1 62 [some (.ref 105), some (.int wi), some (.int de), some (.int c), c4] [.ref 105] N5 v M' 0 0 := Ev.back 1 (fun n => rfl) H
      have H : Ev none e 1 65 [some (.ref 105), some (.int wi), some (.int de), some (.int c), c4] [.ref 107] N5 v M' 0 0 := Ev.back 1 (gs_3 rfl rfl (gf_u hN5.1 qa_105 qr_23_1 qu_25 rfl)) H
      have H : Ev none e 1 68 [some (.ref 105), some (.int wi), some (.int de), some (.int c), c4] [.ref 105, .int c, .int c, .ref 107] N5 v M' 0 0 := Ev.back 3 (fun n => rfl) H
      have H : Ev none e 1 71 [some (.ref 105), some (.int wi), some (.int de), some (.int c), c4] [.int (zI N5 105 3), .int c, .int c, .ref 107] N5 v M' 0 0 := Ev.back 1 (gs_3 rfl rfl (gf_i hN5.1 qa_105 qi_23_3 rfl)) H
      rw [show zI N5 105 3 = zI M 105 3 from by rw [eN5]; exact fI_wI] at H
      obtain ⟨nz6, H⟩ := dv_i H rfl rfl
      have H : Ev none e 1 72 [some (.ref 105), some (.int wi), some (.int de), some (.int c), c4] [.int (c / (zI M 105 3)), .int c, .ref 107] N5 v M' 0 0 := H
      obtain ⟨b7, H⟩ := Ev.ias rfl rfl hN5.1 qa_107 qw_25 H
      obtain ⟨N8, eN8⟩ : ∃ N, N = (wI N5 107 c.toNatClampNeg (c / (zI M 105 3))) := ⟨_, rfl⟩
      have hN8 : SQ N8 := by rw [eN8]; exact hN5.ki
      have H : Ev none e 1 73 [some (.ref 105), some (.int wi), some (.int de), some (.int c), c4] [] N8 v M' 0 0 := by rw [eN8]; exact H
      have H : Ev none e 1 76 [some (.ref 105), some (.int wi), some (.int de), some (.int c), some (.int 0)] [] N8 v M' 0 0 := Ev.back 2 (fun n => rfl) H
      have HF := H
      subst eN5 eN8
      exact Or.inr (Or.inr (⟨h1, h2, nz3, b4, nz6, b7, HF⟩))
theorem shp_76 {e : Nat} {M M' : Mem} {v : Option Value} {wi de c d : Int32} (hS : SQ M) (H : Ev none e 1 76 [some (.ref 105), some (.int wi), some (.int de), some (.int c), some (.int d)] [] M v M' 0 0) : (8 ≤ d ∧ Ev none e 1 29 [some (.ref 105), some (.int wi), some (.int de), some (.int (c + 1)), some (.int d)] [] M v M' 0 0) ∨ (¬ (8 ≤ d) ∧ (0 ≤ c.toInt ∧ c.toInt < 256) ∧ (0 ≤ c.toInt ∧ c.toInt < 256) ∧ (0 ≤ ((8 * c) + d).toInt ∧ ((8 * c) + d).toInt < 2048) ∧ Ev none e 1 76 [some (.ref 105), some (.int wi), some (.int de), some (.int c), some (.int (d + 1))] [] (wI M 108 (((8 * c) + d).toNatClampNeg) (G_2 M ((rI M 106 c) + (sI 1 d)) ((rI M 107 c) + (sI 2 d)))) v M' 0 0) := by
  have H : Ev none e 1 (if 8 ≤ d then 131 else 83) [some (.ref 105), some (.int wi), some (.int de), some (.int c), some (.int d)] [] M v M' 0 0 := Ev.back 3 (fun n => rfl) H
  by_cases h1 : 8 ≤ d
  · rw [if_pos h1] at H
    have H : Ev none e 1 29 [some (.ref 105), some (.int wi), some (.int de), some (.int (c + 1)), some (.int d)] [] M v M' 0 0 := Ev.back 2 (fun n => rfl) H
    have HF := H
    exact Or.inl ⟨h1, HF⟩
  · rw [if_neg h1] at H
    have H : Ev none e 1 84 [some (.ref 105), some (.int wi), some (.int de), some (.int c), some (.int d)] [.ref 105] M v M' 0 0 := Ev.back 1 (fun n => rfl) H
    have H : Ev none e 1 87 [some (.ref 105), some (.int wi), some (.int de), some (.int c), some (.int d)] [.ref 108] M v M' 0 0 := Ev.back 1 (gs_3 rfl rfl (gf_u hS.1 qa_105 qr_23_2 qu_26 rfl)) H
    have H : Ev none e 1 96 [some (.ref 105), some (.int wi), some (.int de), some (.int c), some (.int d)] [.ref 105, .ref 105, .int ((8 * c) + d), .ref 108] M v M' 0 0 := Ev.back 7 (fun n => rfl) H
    have H : Ev none e 1 99 [some (.ref 105), some (.int wi), some (.int de), some (.int c), some (.int d)] [.ref 106, .ref 105, .int ((8 * c) + d), .ref 108] M v M' 0 0 := Ev.back 1 (gs_3 rfl rfl (gf_u hS.1 qa_105 qr_23_0 qu_24 rfl)) H
    have H : Ev none e 1 100 [some (.ref 105), some (.int wi), some (.int de), some (.int c), some (.int d)] [.int c, .ref 106, .ref 105, .int ((8 * c) + d), .ref 108] M v M' 0 0 := Ev.back 1 (fun n => rfl) H
    obtain ⟨b2, H⟩ := Ev.ial rfl rfl hS.1 qa_106 qw_24 H
    have H : Ev none e 1 101 [some (.ref 105), some (.int wi), some (.int de), some (.int c), some (.int d)] [.int (rI M 106 c), .ref 105, .int ((8 * c) + d), .ref 108] M v M' 0 0 := H
    have H : Ev none e 1 106 [some (.ref 105), some (.int wi), some (.int de), some (.int c), some (.int d)] [.int d, .retAddr 1, .int (rI M 106 c), .ref 105, .int ((8 * c) + d), .ref 108] M v M' 0 0 := Ev.back 2 (fun n => rfl) H
    have H : Ev none e 1 107 [some (.ref 105), some (.int wi), some (.int de), some (.int c), some (.int d)] [.int (sI 1 d), .int (rI M 106 c), .ref 105, .int ((8 * c) + d), .ref 108] M v M' 0 0 := Ev.sal rfl rfl H
    have H : Ev none e 1 109 [some (.ref 105), some (.int wi), some (.int de), some (.int c), some (.int d)] [.ref 105, .int ((rI M 106 c) + (sI 1 d)), .ref 105, .int ((8 * c) + d), .ref 108] M v M' 0 0 := Ev.back 2 (fun n => rfl) H
    have H : Ev none e 1 112 [some (.ref 105), some (.int wi), some (.int de), some (.int c), some (.int d)] [.ref 107, .int ((rI M 106 c) + (sI 1 d)), .ref 105, .int ((8 * c) + d), .ref 108] M v M' 0 0 := Ev.back 1 (gs_3 rfl rfl (gf_u hS.1 qa_105 qr_23_1 qu_25 rfl)) H
    have H : Ev none e 1 113 [some (.ref 105), some (.int wi), some (.int de), some (.int c), some (.int d)] [.int c, .ref 107, .int ((rI M 106 c) + (sI 1 d)), .ref 105, .int ((8 * c) + d), .ref 108] M v M' 0 0 := Ev.back 1 (fun n => rfl) H
    obtain ⟨b3, H⟩ := Ev.ial rfl rfl hS.1 qa_107 qw_25 H
    have H : Ev none e 1 114 [some (.ref 105), some (.int wi), some (.int de), some (.int c), some (.int d)] [.int (rI M 107 c), .int ((rI M 106 c) + (sI 1 d)), .ref 105, .int ((8 * c) + d), .ref 108] M v M' 0 0 := H
    have H : Ev none e 1 119 [some (.ref 105), some (.int wi), some (.int de), some (.int c), some (.int d)] [.int d, .retAddr 2, .int (rI M 107 c), .int ((rI M 106 c) + (sI 1 d)), .ref 105, .int ((8 * c) + d), .ref 108] M v M' 0 0 := Ev.back 2 (fun n => rfl) H
    have H : Ev none e 1 120 [some (.ref 105), some (.int wi), some (.int de), some (.int c), some (.int d)] [.int (sI 2 d), .int (rI M 107 c), .int ((rI M 106 c) + (sI 1 d)), .ref 105, .int ((8 * c) + d), .ref 108] M v M' 0 0 := Ev.sal rfl rfl H
    have H : Ev none e 1 121 [some (.ref 105), some (.int wi), some (.int de), some (.int c), some (.int d)] [.int ((rI M 107 c) + (sI 2 d)), .int ((rI M 106 c) + (sI 1 d)), .ref 105, .int ((8 * c) + d), .ref 108] M v M' 0 0 := Ev.back 1 (fun n => rfl) H
    obtain ⟨e1, rfl⟩ := Ev.dpos rfl rfl H
    obtain ⟨vK4, MK4, K4, H⟩ := Ev.callb (fun n_ => gs_7 rfl rfl (show gCal (.invokevirtual 34) 0 (.int ((rI M 107 c) + (sI 2 d)) :: .int ((rI M 106 c) + (sI 1 d)) :: .ref 105 :: [.int ((8 * c) + d), .ref 108]) M = some (.inr (2, [some (.ref 105), some (.int ((rI M 106 c) + (sI 1 d))), some (.int ((rI M 107 c) + (sI 2 d)))], [.int ((8 * c) + d), .ref 108])) from by show @cond (Option ((List Value × Mem) ⊕ (Nat × Lo × List Value))) (true && gRecv M (.ref 105) 0 && gRoom [.int ((8 * c) + d), .ref 108] && true) (some (.inr (2, [some (.ref 105), some (.int ((rI M 106 c) + (sI 1 d))), some (.int ((rI M 107 c) + (sI 2 d)))], [.int ((8 * c) + d), .ref 108]))) none = _; rw [recv_s hS.1 qa_105 qo_23]; rfl)) H
    obtain ⟨pK4, qK4⟩ := g_2 hS K4
    rw [pK4, qK4] at H
    have H : Ev none (e1 + 1) 1 124 [some (.ref 105), some (.int wi), some (.int de), some (.int c), some (.int d)] [.int (G_2 M ((rI M 106 c) + (sI 1 d)) ((rI M 107 c) + (sI 2 d))), .int ((8 * c) + d), .ref 108] M v M' 0 0 := H
    obtain ⟨b5, H⟩ := Ev.ias rfl rfl hS.1 qa_108 qw_26 H
    obtain ⟨N6, eN6⟩ : ∃ N, N = (wI M 108 (((8 * c) + d).toNatClampNeg) (G_2 M ((rI M 106 c) + (sI 1 d)) ((rI M 107 c) + (sI 2 d)))) := ⟨_, rfl⟩
    have hN6 : SQ N6 := by rw [eN6]; exact hS.ki
    have H : Ev none (e1 + 1) 1 125 [some (.ref 105), some (.int wi), some (.int de), some (.int c), some (.int d)] [] N6 v M' 0 0 := by rw [eN6]; exact H
    have H : Ev none (e1 + 1) 1 76 [some (.ref 105), some (.int wi), some (.int de), some (.int c), some (.int (d + 1))] [] N6 v M' 0 0 := Ev.back 2 (fun n => rfl) H
    have HF := H
    subst eN6
    exact Or.inr (⟨h1, b2, b3, b5, HF⟩)
theorem ent_0 {e : Nat} {M M' : Mem} {v : Option Value} {L : Nat} (hS : SQ M) (a_L : gNth sT L = some 8) (H : Ev none e 54 0 [some (.ref 104), some (.ref L)] [] M v M' 0 0) : (∃ e1 v1 M1, e = e1 + 1 ∧ Ev none e1 1 0 [some (.ref 105), some (.int (zI M L 0)), some (.int (zI M L 1)), none, none] [] (wR M 104 7 L) v1 M1 0 0 ∧ Ev none e 54 26 [some (.ref 104), some (.ref L)] (v1.toList ++ []) M1 v M' 0 0) := by
  have H : Ev none e 54 2 [some (.ref 104), some (.ref L)] [.ref L, .ref 104] M v M' 0 0 := Ev.back 2 (fun n => rfl) H
  obtain ⟨N2, eN2⟩ : ∃ N, N = (wR M 104 7 L) := ⟨_, rfl⟩
  have hN2 : SQ N2 := by rw [eN2]; exact hS.kr_22_7 a_L
  have H : Ev none e 54 5 [some (.ref 104), some (.ref L)] [] N2 v M' 0 0 := by rw [eN2]; exact Ev.pfr rfl rfl rfl hS.1 qa_104 qo_22 H
  have H : Ev none e 54 6 [some (.ref 104), some (.ref L)] [.ref 104] N2 v M' 0 0 := Ev.back 1 (fun n => rfl) H
  have H : Ev none e 54 9 [some (.ref 104), some (.ref L)] [.ref 105] N2 v M' 0 0 := Ev.back 1 (gs_3 rfl rfl (gf_u hN2.1 qa_104 qr_22_0 qu_23 rfl)) H
  have H : Ev none e 54 10 [some (.ref 104), some (.ref L)] [.ref 104, .ref 105] N2 v M' 0 0 := Ev.back 1 (fun n => rfl) H
  have H : Ev none e 54 13 [some (.ref 104), some (.ref L)] [.ref (fR N2 104 7), .ref 105] N2 v M' 0 0 := Ev.back 1 (gs_3 rfl rfl (gf_r hN2.1 qa_104 qr_22_7 rfl)) H
  rw [show fR N2 104 7 = L from by rw [eN2]; exact fR_wR_eq hS.1 qa_104 qk_22_7] at H
  have H : Ev none e 54 16 [some (.ref 104), some (.ref L)] [.int (zI N2 L 0), .ref 105] N2 v M' 0 0 := Ev.back 1 (gs_3 rfl rfl (gf_i hN2.1 a_L qi_8_0 rfl)) H
  rw [show zI N2 L 0 = zI M L 0 from by rw [eN2]; exact fI_wR_ne (fun q => absurd q.2 (by decide))] at H
  have H : Ev none e 54 17 [some (.ref 104), some (.ref L)] [.ref 104, .int (zI M L 0), .ref 105] N2 v M' 0 0 := Ev.back 1 (fun n => rfl) H
  have H : Ev none e 54 20 [some (.ref 104), some (.ref L)] [.ref (fR N2 104 7), .int (zI M L 0), .ref 105] N2 v M' 0 0 := Ev.back 1 (gs_3 rfl rfl (gf_r hN2.1 qa_104 qr_22_7 rfl)) H
  rw [show fR N2 104 7 = L from by rw [eN2]; exact fR_wR_eq hS.1 qa_104 qk_22_7] at H
  have H : Ev none e 54 23 [some (.ref 104), some (.ref L)] [.int (zI N2 L 1), .int (zI M L 0), .ref 105] N2 v M' 0 0 := Ev.back 1 (gs_3 rfl rfl (gf_i hN2.1 a_L qi_8_1 rfl)) H
  rw [show zI N2 L 1 = zI M L 1 from by rw [eN2]; exact fI_wR_ne (fun q => absurd q.2 (by decide))] at H
  obtain ⟨e1, rfl⟩ := Ev.dpos rfl rfl H
  obtain ⟨vK3, MK3, K3, H⟩ := Ev.callb (fun n_ => gs_7 rfl rfl (show gCal (.invokevirtual 61) 7 (.int (zI M L 1) :: .int (zI M L 0) :: .ref 105 :: []) N2 = some (.inr (1, [some (.ref 105), some (.int (zI M L 0)), some (.int (zI M L 1)), none, none], [])) from by show @cond (Option ((List Value × Mem) ⊕ (Nat × Lo × List Value))) (true && gRecv N2 (.ref 105) 0 && gRoom [] && true) (some (.inr (1, [some (.ref 105), some (.int (zI M L 0)), some (.int (zI M L 1)), none, none], []))) none = _; rw [recv_s hN2.1 qa_105 qo_23]; rfl)) H
  have K3 : Ev none e1 1 0 [some (.ref 105), some (.int (zI M L 0)), some (.int (zI M L 1)), none, none] [] N2 vK3 MK3 0 0 := K3
  have HF := H
  subst eN2
  exact ⟨e1, vK3, MK3, rfl, K3, HF⟩
theorem ent_26 {e : Nat} {M M' : Mem} {v : Option Value} {L : Nat} (hS : SQ M) (a_L : gNth sT L = some 8) (H : Ev none e 54 26 [some (.ref 104), some (.ref L)] [] M v M' 0 0) : v = none ∧ M' = (X_55 (wF (wF (wF M 104 8 0) 104 9 (-1)) 104 10 0)) := by
  have H : Ev none e 54 28 [some (.ref 104), some (.ref L)] [.int 0, .ref 104] M v M' 0 0 := Ev.back 2 (fun n => rfl) H
  obtain ⟨N2, eN2⟩ : ∃ N, N = (wF M 104 8 0) := ⟨_, rfl⟩
  have hN2 : SQ N2 := by rw [eN2]; exact hS.kf
  have H : Ev none e 54 31 [some (.ref 104), some (.ref L)] [] N2 v M' 0 0 := by rw [eN2]; exact Ev.pfi rfl rfl rfl hS.1 qa_104 qi_22_8 H
  have H : Ev none e 54 33 [some (.ref 104), some (.ref L)] [.int (-1), .ref 104] N2 v M' 0 0 := Ev.back 2 (fun n => rfl) H
  obtain ⟨N4, eN4⟩ : ∃ N, N = (wF N2 104 9 (-1)) := ⟨_, rfl⟩
  have hN4 : SQ N4 := by rw [eN4]; exact hN2.kf
  have H : Ev none e 54 36 [some (.ref 104), some (.ref L)] [] N4 v M' 0 0 := by rw [eN4]; exact Ev.pfi rfl rfl rfl hN2.1 qa_104 qi_22_9 H
  have H : Ev none e 54 38 [some (.ref 104), some (.ref L)] [.int 0, .ref 104] N4 v M' 0 0 := Ev.back 2 (fun n => rfl) H
  obtain ⟨N6, eN6⟩ : ∃ N, N = (wF N4 104 10 0) := ⟨_, rfl⟩
  have hN6 : SQ N6 := by rw [eN6]; exact hN4.kf
  have H : Ev none e 54 41 [some (.ref 104), some (.ref L)] [] N6 v M' 0 0 := by rw [eN6]; exact Ev.pfi rfl rfl rfl hN4.1 qa_104 qi_22_10 H
  have H : Ev none e 54 42 [some (.ref 104), some (.ref L)] [.ref 104] N6 v M' 0 0 := Ev.back 1 (fun n => rfl) H
  obtain ⟨e1, rfl⟩ := Ev.dpos rfl rfl H
  obtain ⟨vK7, MK7, K7, H⟩ := Ev.callb (fun n_ => gs_7 rfl rfl (show gCal (.invokevirtual 75) 7 (.ref 104 :: []) N6 = some (.inr (55, [some (.ref 104)], [])) from by show @cond (Option ((List Value × Mem) ⊕ (Nat × Lo × List Value))) (true && gRecv N6 (.ref 104) 7 && gRoom [] && true) (some (.inr (55, [some (.ref 104)], []))) none = _; rw [recv_s hN6.1 qa_104 qo_22]; rfl)) H
  obtain ⟨pK7, qK7⟩ := g_55 hN6 K7
  rw [pK7, qK7] at H
  obtain ⟨N8, eN8⟩ : ∃ N, N = (X_55 N6) := ⟨_, rfl⟩
  have hN8 : SQ N8 := by rw [eN8]; exact X_55_sx hN6
  rw [← eN8] at H
  have H : Ev none (e1 + 1) 54 45 [some (.ref 104), some (.ref L)] [] N8 v M' 0 0 := H
  obtain ⟨z1, z2⟩ := Ev.retb (fun n => rfl) H
  subst eN2 eN4 eN6 eN8
  exact ⟨z1, z2⟩
/-! THE CLASS'S choose -/
def SXc (M : Mem) : Prop := ∀ m, m < 7 → oN M 129 m = 130 + m
def GRD (P : PK) (M : Mem) : Prop := ∀ c, inC P c → rI M 106 c = c - c / P 0 * P 0 ∧ rI M 107 c = c / P 0 ∧ ∀ d : Int32, 0 ≤ d.toInt → d.toInt < 8 → rI M 108 (8 * c + d) = besP P c d
/-- all that the class's walking rests on -/
def CTX (L : Nat) (T : TS) (P : PK) (M : Mem) : Prop := CV L (T 0) P M ∧ wh4 P ∧ (∀ c, inC P c → nnC P c) ∧ SXc M ∧ GRD P M ∧ (TXT M (fR M 104 2) (T 0) ∧ LW (T 0)) ∧ (∀ h, h < 6 → TXT M (oN M 109 h) (T (h + 1)) ∧ LW (T (h + 1))) ∧ ∀ c, inC P c → rI M (L + 8) c = crdP P c (P 157).toInt.toNat
def lkW (a : Nat) : Prop := a = 128 ∨ (130 ≤ a ∧ a ≤ 136)
def noF (_ _ : Nat) : Prop := False
def noO (_ : Nat) : Prop := False
def ixA (h : Nat) (c : Int32) : Nat := 256 * h + c.toInt.toNat
def OKv (T : TS) (P : PK) (M : Mem) (h : Nat) (c : Int32) : Prop := rN M 128 (ixA h c) = bI (nevL (T 0) P (T (h + 1)) c (T (h + 1)).2) ∧ ∀ m, m < 7 → rN M (130 + m) (ixA h c) = sumL (T 0) P (T (h + 1)) c (nI m) (T (h + 1)).2 0
/-- what was looked at and kept -/
def VC (T : TS) (P : PK) (M : Mem) : Prop := ∀ h c, h < 6 → inC P c → rN M 128 (ixA h c) = -1 ∨ OKv T P M h c
set_option maxRecDepth 100000 in
theorem su_g : ∀ m, m < 7 → gNth sT (130 + m) = some 39 := by decide +kernel
section CHO
variable {e L t : Nat} {T : TS} {g q : TQ} {P : PK} {M M1 M' : Mem} {v : Option Value} {c d : Int32}
theorem ld_cases (h : gNth sT L = some 8) : L = 8 ∨ L = 243 ∨ L = 345 ∨ L = 441 ∨ L = 537 := by
  have h1 := tl_mem h
  unfold fxA at h1
  simp only [List.mem_cons, List.not_mem_nil, or_false] at h1
  exact h1
theorem tx_cases (h : gNth sT t = some 28) : t = 110 ∨ t = 119 ∨ t = 138 ∨ t = 147 ∨ t = 156 ∨ t = 165 ∨ t = 174 ∨ t = 183 := by
  have h1 := tx_mem h
  unfold fxT at h1
  simp only [List.mem_cons, List.not_mem_nil, or_false] at h1
  exact h1
theorem LCt.fz {F : Nat → Nat → Prop} {W O : Nat → Prop} {ls : List Lnq} (h : LCt M t ls) (hF : FZ F W O M M') (f : ¬ F t 8) (w : ∀ k, 1 ≤ k → k ≤ 5 → ¬ W (t + k)) : LCt M' t ls := by
  refine ⟨by rw [hF.fi f]; exact h.1, h.2.1, fun j l hj => ?_⟩
  rw [hF.rn (w 1 (by decide) (by decide)), hF.rn (w 2 (by decide) (by decide)), hF.rn (w 3 (by decide) (by decide)), hF.rn (w 4 (by decide) (by decide)), hF.rn (w 5 (by decide) (by decide))]
  exact h.2.2 j l hj
theorem CC.fz {F : Nat → Nat → Prop} {W O : Nat → Prop} {cs : List Cdq} (h : CC M t cs) (hF : FZ F W O M M') (f : ¬ F t 9) (w : ∀ k, 6 ≤ k → k ≤ 8 → ¬ W (t + k)) : CC M' t cs := by
  refine ⟨by rw [hF.fi f]; exact h.1, h.2.1, fun j c hj => ?_⟩
  rw [hF.rn (w 6 (by decide) (by decide)), hF.rn (w 7 (by decide) (by decide)), hF.rn (w 8 (by decide) (by decide))]
  exact h.2.2 j c hj
theorem TXT.fz {F : Nat → Nat → Prop} {W O : Nat → Prop} (h : TXT M t q) (hF : FZ F W O M M') (f : ∀ k, ¬ F t k) (w : ∀ k, 1 ≤ k → k ≤ 8 → ¬ W (t + k)) : TXT M' t q := by
  obtain ⟨h1, h2, h3, h4, h5, h6⟩ := h
  refine ⟨h1.fz hF (f 8) (fun k a b => w k a (by omega)), h2.fz hF (f 9) (fun k a b => w k (by omega) b), ?_, ?_, ?_, ?_⟩
  · rw [hF.fi (f 10)]; exact h3
  · rw [hF.fi (f 11)]; exact h4
  · rw [hF.fi (f 12)]; exact h5
  · rw [hF.fi (f 13)]; exact h6
theorem hab_t (hS : SH M) {h : Nat} (hh : h < 6) : gNth sT (oN M 109 h) = some 28 := ((hS.ror qa_109 qz_27).2.2 h hh).2
theorem law_t (hS : SH M) : gNth sT (fR M 104 2) = some 28 := (hS.fr qa_104 qr_22_2).2
theorem lk_tx (ht : gNth sT t = some 28) : ∀ k, 1 ≤ k → k ≤ 8 → ¬ lkW (t + k) := by
  intro k h1 h2 h
  unfold lkW at h
  rcases tx_cases ht with h | h | h | h | h | h | h | h <;> omega
theorem lk_ld (hL : gNth sT L = some 8) : ∀ k, k ≤ 95 → ¬ lkW (L + k) := by
  intro k h2 h
  unfold lkW at h
  rcases ld_cases hL with h | h | h | h | h <;> omega
theorem CTX.lk (h : CTX L T P M) (hS : SQ M') (hF : FZ noF lkW noO M M') : CTX L T P M' := by
  obtain ⟨⟨a1, a2, a3, a4, a5, a6, a7⟩, b1, b2, b3, b4, ⟨b5, b6⟩, b7, b8⟩ := h
  have nf : ∀ a k, ¬ noF a k := fun _ _ h => h
  have no : ∀ a, ¬ noO a := fun _ h => h
  have hl := law_t a1.1
  have e2 : fR M' 104 2 = fR M 104 2 := hF.fr (nf _ _)
  refine ⟨⟨hS, by rw [hF.fr (nf _ _)]; exact a2, a3, ?_, ?_, ?_, fun k f hk hf => ?_⟩, b1, b2, fun m hm => by rw [hF.on (no _)]; exact b3 m hm, fun c hc => ?_, ⟨?_, b6⟩, fun h hh => ?_, fun c hc => ?_⟩
  · rw [e2, hF.fi (nf _ _)]; exact a4
  · rw [e2, hF.fi (nf _ _)]; exact a5
  · rw [e2, hF.fi (nf _ _)]; exact a6
  · rw [show L + 1 + f = L + (1 + f) from by omega, hF.rn (lk_ld a3 (1 + f) (by omega)), ← show L + 1 + f = L + (1 + f) from by omega]; exact a7 k f hk hf
  · obtain ⟨g1, g2, g3⟩ := b4 c hc
    have r6 : ∀ j, rI M' 106 j = rI M 106 j := fun j => hF.rn (by unfold lkW; omega)
    have r7 : ∀ j, rI M' 107 j = rI M 107 j := fun j => hF.rn (by unfold lkW; omega)
    have r8 : ∀ j, rI M' 108 j = rI M 108 j := fun j => hF.rn (by unfold lkW; omega)
    rw [r6, r7]
    exact ⟨g1, g2, fun d d0 d1 => by rw [r8]; exact g3 d d0 d1⟩
  · rw [e2]
    exact b5.fz hF (fun k => nf _ _) (lk_tx hl)
  · rw [hF.on (no _)]
    exact ⟨(b7 h hh).1.fz hF (fun k => nf _ _) (lk_tx (hab_t a1.1 hh)), (b7 h hh).2⟩
  · have : rI M' (L + 8) c = rI M (L + 8) c := hF.rn (lk_ld a3 8 (by decide))
    rw [this]
    exact b8 c hc
theorem tv_rng {ls : List Lnq} (hw : ∀ l ∈ ls, nuOK l.1 l.2.1 l.2.2.1) (k d : Int32) : tvS ls k d = d ∨ ∃ l ∈ ls, l.1 = k ∧ tvS ls k d = l.2.2.1 := by
  unfold tvS
  split
  · rename_i l e
    have h1 := List.find?_some e
    exact Or.inr ⟨l, List.mem_of_find?_eq_some e, of_decide_eq_true h1, rfl⟩
  · exact Or.inl rfl
theorem bd_rng (hw : LW q) : 1 ≤ (bdQ q).toInt ∧ (bdQ q).toInt ≤ 999 := by
  unfold bdQ
  rcases tv_rng (fun l hl => (hw l hl).1) 2 40 with e | ⟨l, hl, e1, e2⟩
  · rw [e]; decide
  · rw [e2]
    have h := (hw l hl).1
    exact ⟨h.2.2.2.1 e1, h.2.1⟩
theorem si_rng (hw : LW q) : 0 ≤ (siQ q).toInt ∧ (siQ q).toInt ≤ 9 := by
  unfold siQ
  rcases tv_rng (fun l hl => (hw l hl).1) 7 3 with e | ⟨l, hl, e1, e2⟩
  · rw [e]; decide
  · rw [e2]
    have h := (hw l hl).1
    exact ⟨h.1, h.2.2.2.2 e1⟩
theorem g7_ok (hV : CV L g P M) (hc : inC P c) : G_7 M L c = bI (opnB P c) := by
  have r0 : rI M (L + 1) c = cE P 0 c := hV.2.2.2.2.2.2.at hc (f := 0) (by decide)
  unfold G_7 opnB
  rw [r0]
  by_cases h3 : cE P 0 c = 3
  · rw [if_pos h3, decide_eq_true h3]; rfl
  · rw [if_neg h3, decide_eq_false h3]
    by_cases h6 : cE P 0 c = 6
    · rw [if_pos h6, decide_eq_true h6]; rfl
    · rw [if_neg h6, decide_eq_false h6]; rfl
theorem g8_ok (hV : CV L g P M) (hc : inC P c) : G_8 M L c = bI (grnB P c) := by
  have r0 : rI M (L + 1) c = cE P 0 c := hV.2.2.2.2.2.2.at hc (f := 0) (by decide)
  unfold G_8 grnB
  rw [r0]
  by_cases h3 : cE P 0 c = 0
  · rw [if_pos h3, decide_eq_true h3]; rfl
  · rw [if_neg h3, decide_eq_false h3]
    by_cases h6 : cE P 0 c = 2
    · rw [if_pos h6, decide_eq_true h6]; rfl
    · rw [if_neg h6, decide_eq_false h6]; rfl
theorem g56_ok (hV : CV L g P M) (hc : inC P c) : G_56 M c = bI (wrnB g P c) := by
  have r0 : rI M (L + 4) c = cE P 3 c := hV.2.2.2.2.2.2.at hc (f := 3) (by decide)
  unfold G_56 wrnB
  rw [hV.2.1, r0, hV.2.2.2.1]
  by_cases h : cE P 3 c < bdQ g
  · rw [if_pos h, decide_eq_false (fun q => by rw [Int32.lt_iff_toInt_lt] at h; have := Int32.le_iff_toInt_le.mp q; omega)]; rfl
  · rw [if_neg h, decide_eq_true (Int32.le_iff_toInt_le.mpr (by rw [Int32.lt_iff_toInt_lt] at h; omega))]; rfl
theorem bI_0 {b : Bool} : bI b = 0 ↔ b = false := by cases b <;> decide
theorem bI_1 {b : Bool} : bI b = 1 ↔ b = true := by cases b <;> decide
theorem ln_at {ls : List Lnq} {j : Nat} {l : Lnq} {r : List Lnq} (h : ls.drop j = l :: r) : ls[j]? = some l ∧ ls.drop (j + 1) = r ∧ j < ls.length := by
  have h1 : (ls.drop j)[0]? = some l := by rw [h]; rfl
  rw [List.getElem?_drop] at h1
  refine ⟨h1, ?_, ?_⟩
  · have h2 : (ls.drop j).drop 1 = r := by rw [h]; rfl
    rw [List.drop_drop] at h2
    exact h2
  · exact (List.getElem?_eq_some_iff.mp h1).1
theorem dr_nil {ls : List Lnq} {j : Nat} (h : ls.drop j = []) : ls.length ≤ j := List.drop_eq_nil_iff.mp h
/-- the first line of a kind that holds: its NUMBER -/
theorem fnb_loop (hX : CTX L T P M) (hc : inC P c) {wh wo : Int32} : ∀ (r : List Lnq) (j : Nat) (i : Int32), (T 0).2.drop j = r → i.toInt = (j : Int) → j ≤ (T 0).2.length → Ev none e 64 3 [some (.ref 104), some (.int wh), some (.int c), some (.int wo), some (.int i)] [] M v M' 0 0 → M' = M ∧ v = some (.int (fstL (T 0) P wh c wo r)) := by
  have hS := hX.1.1
  have hl := law_t hS.1
  obtain ⟨ht, hw⟩ := hX.2.2.2.2.2.1
  have hn := hX.2.2.1 c hc
  have l1 := ht.1.1
  have l2 := ht.1.2.1
  intro r
  induction r with
  | nil =>
    intro j i hd hi hj H
    have h1 := dr_nil hd
    rcases fnb_3 hS H with ⟨_, h2, h3⟩ | ⟨a1, _⟩ | ⟨a1, _⟩
    · exact ⟨h3, h2⟩
    all_goals exact absurd (Int32.le_iff_toInt_le.mpr (by omega)) a1
  | cons l r ih =>
    intro j i hd hi hj H
    obtain ⟨h1, h2, h3⟩ := ln_at hd
    have hi1 : (i + 1).toInt = ((j + 1 : Nat) : Int) := by
      rw [i32_p1 (by omega)]
      omega
    have hk : rI M (fR M 104 2 + 1) i = l.1 := by
      rw [rI_n hi]
      exact (ht.1.2.2 j l h1).1
    have hnu : rI M (fR M 104 2 + 3) i = l.2.2.1 := by
      rw [rI_n hi]
      exact (ht.1.2.2 j l h1).2.2.1
    unfold fstL
    rcases fnb_3 hS H with ⟨a1, _⟩ | ⟨_, a2, _, e1, v1, M1, rfl, H1, H⟩ | ⟨_, a2, _, H⟩
    · have := Int32.le_iff_toInt_le.mp a1
      omega
    · rw [hk] at a2
      obtain ⟨rfl, rfl⟩ := holds_ok hX.1 hl ht hw hc hn hi h1 H1
      rcases fnb_40 hS H with ⟨b1, H⟩ | ⟨b1, _, b2, b3⟩
      · rw [if_neg (fun q => by have := bI_0.mp b1; rw [q.2] at this; cases this)]
        exact ih (j + 1) _ h2 hi1 (by omega) H
      · rw [hnu] at b2
        have hb : hldP (T 0) P (T 0) l c = true := by
          cases hh : hldP (T 0) P (T 0) l c with
          | true => rfl
          | false => exact absurd (bI_0.mpr hh) b1
        rw [if_pos ⟨a2, hb⟩]
        exact ⟨b3, b2⟩
    · rw [hk] at a2
      rw [if_neg (fun q => a2 q.1)]
      exact ih (j + 1) _ h2 hi1 (by omega) H
theorem fnb_ok (hX : CTX L T P M) (hc : inC P c) {wh wo : Int32} (H : Ev none e 64 0 [some (.ref 104), some (.int wh), some (.int c), some (.int wo), none] [] M v M' 0 0) : M' = M ∧ v = some (.int (fstL (T 0) P wh c wo (T 0).2)) := fnb_loop hX hc (T 0).2 0 0 rfl rfl (Nat.zero_le _) (fnb_0 hX.1.1 H)
/-- how many ahead are WORN -/
theorem wha_loop (hX : CTX L T P M) (d0 : 0 ≤ d.toInt) (d1 : d.toInt < 8) {c0 si : Int32} : ∀ (n : Nat) (nn av k : Int32), (si.toInt - k.toInt).toNat = n → 0 ≤ k.toInt → (av = -1 ∨ inC P av) → Ev none e 69 9 [some (.ref 104), some (.int c0), some (.int d), some (.int si), some (.int nn), some (.int av), some (.int k)] [] M v M' 0 0 → M' = M ∧ v = some (.int (seeP (T 0) P d n av nn)) := by
  have hS := hX.1.1
  have hL := hX.1.2.1
  have hT := hX.1.2.2.1
  intro n
  induction n with
  | zero =>
    intro nn av k hn k0 _ H
    rcases wha_9 hS H with ⟨_, h2, h3⟩ | ⟨a1, _⟩ | ⟨a1, _⟩ | ⟨a1, _⟩ | ⟨a1, _⟩
    · exact ⟨h3, h2⟩
    all_goals exact absurd (Int32.le_iff_toInt_le.mpr (by omega)) a1
  | succ n ih =>
    intro nn av k hn k0 ha H
    have hsi := i32_lt si
    have hk1 : (k + 1).toInt = k.toInt + 1 := i32_p1 (by omega)
    unfold seeP
    have hop : ¬ av = -1 → inC P av ∧ ¬ av < 0 := fun q => by
      rcases ha with h | h
      · exact absurd h q
      · exact ⟨h, fun r => by rw [i32_z] at r; have := h.1; omega⟩
    rcases wha_9 hS H with ⟨a1, _⟩ | ⟨_, a2, h2, h3⟩ | ⟨_, a2, a3, h2, h3⟩ | ⟨_, a2, a3, a4, _, H⟩ | ⟨_, a2, a3, a4, _, H⟩
    · have := Int32.le_iff_toInt_le.mp a1
      omega
    · rw [if_pos (Or.inl (by rw [a2]; decide))]
      exact ⟨h3, h2⟩
    · obtain ⟨q1, q2⟩ := hop a2
      rw [hL, g7_ok hX.1 q1, bI_0] at a3
      rw [if_pos (Or.inr a3)]
      exact ⟨h3, h2⟩
    · obtain ⟨q1, q2⟩ := hop a2
      rw [hL, g7_ok hX.1 q1, bI_0] at a3
      rw [g56_ok hX.1 q1, bI_0] at a4
      rw [if_neg (fun q => q.elim q2 a3), a4, if_neg (by decide)]
      rw [(hX.2.2.2.2.1 av q1).2.2 d d0 d1] at H
      exact ih _ _ _ (by rw [hk1]; omega) (by omega) (besP_in hX.2.1 q1) H
    · obtain ⟨q1, q2⟩ := hop a2
      rw [hL, g7_ok hX.1 q1, bI_0] at a3
      rw [g56_ok hX.1 q1, bI_0, Bool.not_eq_false] at a4
      rw [if_neg (fun q => q.elim q2 a3), a4, if_pos rfl]
      rw [(hX.2.2.2.2.1 av q1).2.2 d d0 d1] at H
      exact ih _ _ _ (by rw [hk1]; omega) (by omega) (besP_in hX.2.1 q1) H
theorem wha_ok (hX : CTX L T P M) (d0 : 0 ≤ d.toInt) (d1 : d.toInt < 8) (hc : inC P c) {si : Int32} (s0 : 0 ≤ si.toInt) (H : Ev none e 69 0 [some (.ref 104), some (.int c), some (.int d), some (.int si), none, none, none] [] M v M' 0 0) : M' = M ∧ v = some (.int (seeP (T 0) P d si.toInt.toNat c 0)) := wha_loop hX d0 d1 si.toInt.toNat 0 c 0 (by have : (0 : Int32).toInt = 0 := rfl; omega) (by decide) (Or.inr hc) (wha_0 hX.1.1 H)
/-! looking at a CELL -/
theorem lk_wI1 {j : Nat} {x : Int32} : FZ noF lkW noO M (wI M 128 j x) := FZ.wI (Or.inl rfl)
theorem lk_wI2 {m j : Nat} {x : Int32} (hm : m < 7) : FZ noF lkW noO M (wI M (130 + m) j x) := FZ.wI (Or.inr ⟨by omega, by omega⟩)
theorem row128 (hS : SH M) : (zrw M 128).length = 1536 := (hS.row qa_128 qw_37).2
theorem row130 (hS : SH M) {m : Nat} (hm : m < 7) : (zrw M (130 + m)).length = 1536 := (hS.row (su_g m hm) qw_39).2
/-- the sums of one place -/
def SUa (A : Nat) (s : Int32 → Int32) (M : Mem) : Prop := ∀ m, m < 7 → rN M (130 + m) A = s (nI m)
/-- but for one place all as it was -/
def OTa (A : Nat) (M M' : Mem) : Prop := ∀ b j, lkW b → j ≠ A → rN M' b j = rN M b j
theorem OTa.refl {A : Nat} : OTa A M M := fun _ _ _ _ => rfl
theorem OTa.trans {A : Nat} (h1 : OTa A M M1) (h2 : OTa A M1 M') : OTa A M M' := fun b j hb hj => (h2 b j hb hj).trans (h1 b j hb hj)
theorem OTa.wI {A b : Nat} {x : Int32} : OTa A M (wI M b A x) := fun b' j _ hj => rN_wI_ne (fun q => hj q.2)
theorem oI_sum (hX : SXc M) {m : Int32} {k : Nat} (hm : m.toInt = (k : Int)) (hk : k < 7) : oI M 129 m = 130 + k := by
  unfold oI
  rw [cl_n hm]
  exact hX k hk
theorem loo_z (hX : SXc M) (hS : SQ M) (ht : gNth sT t = some 28) {av : Int32} {A : Nat} (hA : av.toInt = (A : Int)) (hA2 : A < 1536) : ∀ (n k : Nat) (i : Int32) (c5 : Option Value), i.toInt = (k : Int) → n + k = 7 → (∀ m, m < k → rN M (130 + m) A = 0) → Ev none e 67 10 [some (.ref 104), some (.ref t), some (.int av), some (.int c), some (.int i), c5] [] M v M' 0 0 → ∃ M1 c5, SQ M1 ∧ FZ noF lkW noO M M1 ∧ OTa A M M1 ∧ rN M1 128 A = rN M 128 A ∧ (∀ m, m < 7 → rN M1 (130 + m) A = 0) ∧ Ev none e 67 36 [some (.ref 104), some (.ref t), some (.int av), some (.int c), some (.int 0), c5] [] M1 v M' 0 0 := by
  intro n
  induction n generalizing M with
  | zero =>
    intro k i c5 hi hk h0 H
    rcases loo_10 hS ht H with ⟨_, H⟩ | ⟨a1, _⟩
    · exact ⟨M, c5, hS, FZ.refl M, OTa.refl, rfl, fun m hm => h0 m (by omega), H⟩
    · have e7 : (7 : Int32).toInt = 7 := rfl
      exact absurd (Int32.le_iff_toInt_le.mpr (by omega)) a1
  | succ n ih =>
    intro k i c5 hi hk h0 H
    have e7 : (7 : Int32).toInt = 7 := rfl
    rcases loo_10 hS ht H with ⟨a1, _⟩ | ⟨_, _, _, H⟩
    · have := Int32.le_iff_toInt_le.mp a1
      omega
    · rw [oI_sum hX hi (by omega), cl_n hA] at H
      have hF : FZ noF lkW noO M (wI M (130 + k) A 0) := lk_wI2 (by omega)
      have hX1 : SXc (wI M (130 + k) A 0) := fun m hm => by rw [hF.on (fun q => q)]; exact hX m hm
      obtain ⟨M1, c5', s1, s2, s3, s4, s5, s6⟩ := ih hX1 hS.ki (k + 1) (i + 1) c5 (by rw [i32_p1 (by omega)]; omega) (by omega) (fun m hm => by
        by_cases hmk : m = k
        · subst hmk
          exact rN_wI_eq (by rw [row130 hS.1 (by omega)]; exact hA2)
        · rw [rN_wI_ne (fun q => hmk (by omega))]
          exact h0 m (by omega)) H
      refine ⟨M1, c5', s1, hF.trans s2, OTa.wI.trans s3, ?_, s5, s6⟩
      rw [s4, rN_wI_ne (fun q => absurd q.1 (by omega))]
theorem loo_l (h : Nat) (hh : h < 6) (hc : inC P c) {av : Int32} {A : Nat} (hA : av.toInt = (A : Int)) (hA2 : A < 1536) : ∀ (r : List Lnq) (M : Mem) (j : Nat) (i : Int32) (c5 : Option Value) (b : Bool) (s : Int32 → Int32), CTX L T P M → t = oN M 109 h → (T (h + 1)).2.drop j = r → i.toInt = (j : Int) → j ≤ (T (h + 1)).2.length → rN M 128 A = bI b → SUa A s M → Ev none e 67 36 [some (.ref 104), some (.ref t), some (.int av), some (.int c), some (.int i), c5] [] M v M' 0 0 → v = none ∧ SQ M' ∧ FZ noF lkW noO M M' ∧ OTa A M M' ∧ rN M' 128 A = bI (b || nevL (T 0) P (T (h + 1)) c r) ∧ SUa A (fun m => sumL (T 0) P (T (h + 1)) c m r (s m)) M' := by
  intro r
  induction r with
  | nil =>
    intro M j i c5 b s hX ht hd hi hj hb hs H
    have hS := hX.1.1
    obtain ⟨hq, hw⟩ := hX.2.2.2.2.2.2.1 h hh
    rw [← ht] at hq
    have htt : gNth sT t = some 28 := by rw [ht]; exact hab_t hS.1 hh
    have h1 := dr_nil hd
    have l1 := hq.1.1
    have l2 := hq.1.2.1
    rcases loo_36 hS htt H with ⟨_, h2, h3⟩ | ⟨a1, _⟩ | ⟨a1, _⟩ | ⟨a1, _⟩
    · subst h3
      refine ⟨h2, hS, FZ.refl _, OTa.refl, ?_, hs⟩
      rw [hb]
      show bI b = bI (b || false)
      rw [Bool.or_false]
    all_goals exact absurd (Int32.le_iff_toInt_le.mpr (by omega)) a1
  | cons l r ih =>
    intro M j i c5 b s hX ht hd hi hj hb hs H
    have hS := hX.1.1
    obtain ⟨hq, hw⟩ := hX.2.2.2.2.2.2.1 h hh
    rw [← ht] at hq
    have htt : gNth sT t = some 28 := by rw [ht]; exact hab_t hS.1 hh
    have hn := hX.2.2.1 c hc
    obtain ⟨h1, h2, h3⟩ := ln_at hd
    have l1 := hq.1.1
    have l2 := hq.1.2.1
    obtain ⟨k1, k2, k3, _⟩ := hq.1.2.2 j l h1
    rw [← rI_n hi] at k1 k2 k3
    have hi1 : (i + 1).toInt = ((j + 1 : Nat) : Int) := by
      rw [i32_p1 (by omega)]
      omega
    have hnu := (hw l (List.mem_of_getElem? h1)).1
    have nev : ∀ x : Bool, (l.1 = 6 ∧ hldP (T 0) P (T (h + 1)) l c = true ↔ x = true) → nevL (T 0) P (T (h + 1)) c (l :: r) = (x || nevL (T 0) P (T (h + 1)) c r) := fun x hx => by
      show (if l.1 = 6 ∧ hldP (T 0) P (T (h + 1)) l c = true then true else nevL (T 0) P (T (h + 1)) c r) = _
      cases x with
      | true => rw [if_pos (hx.mpr rfl)]; rfl
      | false => rw [if_neg (fun q => absurd (hx.mp q) (by decide))]; rfl
    have next : ∀ (c5 : Option Value), ¬ (l.1 = 6 ∧ hldP (T 0) P (T (h + 1)) l c = true) → ¬ (l.1 = 5 ∧ hldP (T 0) P (T (h + 1)) l c = true) → Ev none e 67 36 [some (.ref 104), some (.ref t), some (.int av), some (.int c), some (.int (i + 1)), c5] [] M v M' 0 0 → v = none ∧ SQ M' ∧ FZ noF lkW noO M M' ∧ OTa A M M' ∧ rN M' 128 A = bI (b || nevL (T 0) P (T (h + 1)) c (l :: r)) ∧ SUa A (fun m => sumL (T 0) P (T (h + 1)) c m (l :: r) (s m)) M' := fun c5 n6 n5 H => by
      obtain ⟨r1, r2, r3, r4, r5, r6⟩ := ih M (j + 1) (i + 1) c5 b s hX ht h2 hi1 (by omega) hb hs H
      refine ⟨r1, r2, r3, r4, ?_, fun m hm => ?_⟩
      · rw [nev false ⟨fun q => absurd q n6, fun q => by cases q⟩]
        exact r5
      · rw [r6 m hm]
        show _ = sumL (T 0) P (T (h + 1)) c (nI m) r (if l.1 = 5 ∧ hldP (T 0) P (T (h + 1)) l c = true ∧ l.2.1 = nI m then s (nI m) + l.2.2.1 else s (nI m))
        rw [if_neg (fun q => n5 ⟨q.1, q.2.1⟩)]
    have mid : (l.1 = 5 ∨ l.1 = 6) → ∀ (c5 : Option Value), Ev none e 67 88 [some (.ref 104), some (.ref t), some (.int av), some (.int c), some (.int i), c5] [.int (bI (hldP (T 0) P (T (h + 1)) l c))] M v M' 0 0 → v = none ∧ SQ M' ∧ FZ noF lkW noO M M' ∧ OTa A M M' ∧ rN M' 128 A = bI (b || nevL (T 0) P (T (h + 1)) c (l :: r)) ∧ SUa A (fun m => sumL (T 0) P (T (h + 1)) c m (l :: r) (s m)) M' := fun h56 c5 H => by
      rcases loo_88 hS htt H with ⟨a1, H⟩ | ⟨a1, a2, _, _, H⟩ | ⟨a1, a2, _, _, _, _, _, _, H⟩
      · rw [bI_0] at a1
        exact next c5 (fun q => by rw [a1] at q; cases q.2) (fun q => by rw [a1] at q; cases q.2) H
      · have hh1 : hldP (T 0) P (T (h + 1)) l c = true := by
          cases hq : hldP (T 0) P (T (h + 1)) l c with
          | true => rfl
          | false => exact absurd (bI_0.mpr hq) a1
        rw [k1] at a2
        rw [cl_n hA] at H
        have hF : FZ noF lkW noO M (wI M 128 A 1) := lk_wI1
        obtain ⟨r1, r2, r3, r4, r5, r6⟩ := ih (wI M 128 A 1) (j + 1) (i + 1) c5 true s (hX.lk hS.ki hF) (by rw [hF.on (fun q => q)]; exact ht) h2 hi1 (by omega) (rN_wI_eq (by rw [row128 hS.1]; exact hA2)) (fun m hm => by rw [rN_wI_ne (fun q => absurd q.1 (by omega))]; exact hs m hm) H
        refine ⟨r1, r2, hF.trans r3, OTa.wI.trans r4, ?_, fun m hm => ?_⟩
        · rw [nev true ⟨fun _ => rfl, fun _ => ⟨a2, hh1⟩⟩, r5]
          show bI (true || _) = bI (b || (true || _))
          rw [Bool.true_or, Bool.or_true]
        · rw [r6 m hm]
          show _ = sumL (T 0) P (T (h + 1)) c (nI m) r (if l.1 = 5 ∧ hldP (T 0) P (T (h + 1)) l c = true ∧ l.2.1 = nI m then s (nI m) + l.2.2.1 else s (nI m))
          rw [if_neg (fun q => by rw [a2] at q; exact absurd q.1 (by decide))]
      · have hh1 : hldP (T 0) P (T (h + 1)) l c = true := by
          cases hq : hldP (T 0) P (T (h + 1)) l c with
          | true => rfl
          | false => exact absurd (bI_0.mpr hq) a1
        rw [k1] at a2
        have h5 : l.1 = 5 := h56.elim id (fun q => absurd q a2)
        rw [k2, k3] at H
        obtain ⟨m0, m1⟩ := (hnu.2.2.1 h5).2
        obtain ⟨km, km1, km2⟩ := i32_in (k := 6) m0 m1 (by decide)
        have km3 : l.2.1.toInt = (km : Int) := by rw [km2]; exact nI_toInt (by omega)
        rw [oI_sum hX.2.2.2.1 km3 (by omega), rI_n hA, cl_n hA, hs km (by omega)] at H
        have hF : FZ noF lkW noO M (wI M (130 + km) A (s (nI km) + l.2.2.1)) := lk_wI2 (by omega)
        obtain ⟨r1, r2, r3, r4, r5, r6⟩ := ih (wI M (130 + km) A (s (nI km) + l.2.2.1)) (j + 1) (i + 1) c5 b (fun k => if l.2.1 = k then s k + l.2.2.1 else s k) (hX.lk hS.ki hF) (by rw [hF.on (fun q => q)]; exact ht) h2 hi1 (by omega) (by rw [rN_wI_ne (fun q => absurd q.1 (by omega))]; exact hb) (fun m hm => by
          by_cases hmk : m = km
          · subst hmk
            rw [rN_wI_eq (by rw [row130 hS.1 hm]; exact hA2)]
            dsimp only
            rw [if_pos km2]
          · rw [rN_wI_ne (fun q => hmk (by omega))]
            dsimp only
            rw [if_neg (fun q => hmk (by
              have q2 := congrArg Int32.toInt q
              rw [km3, nI_toInt (by omega)] at q2
              omega))]
            exact hs m hm) H
        refine ⟨r1, r2, hF.trans r3, OTa.wI.trans r4, ?_, fun m hm => ?_⟩
        · rw [nev false ⟨fun q => absurd q.1 a2, fun q => by cases q⟩]
          exact r5
        · rw [r6 m hm]
          show _ = sumL (T 0) P (T (h + 1)) c (nI m) r (if l.1 = 5 ∧ hldP (T 0) P (T (h + 1)) l c = true ∧ l.2.1 = nI m then s (nI m) + l.2.2.1 else s (nI m))
          dsimp only
          by_cases hm2 : l.2.1 = nI m
          · rw [if_pos hm2, if_pos ⟨h5, hh1, hm2⟩]
          · rw [if_neg hm2, if_neg (fun q => hm2 q.2.2)]
    rcases loo_36 hS htt H with ⟨a1, _⟩ | ⟨_, a2, _, e1, v1, M1, rfl, H1, H⟩ | ⟨_, a2, a3, _, _, e1, v1, M1, rfl, H1, H⟩ | ⟨_, a2, a3, _, _, H⟩
    · have := Int32.le_iff_toInt_le.mp a1
      omega
    · rw [k1] at a2
      obtain ⟨rfl, rfl⟩ := holds_ok hX.1 htt hq hw hc hn hi h1 H1
      exact mid (Or.inl a2) _ H
    · rw [k1] at a3
      obtain ⟨rfl, rfl⟩ := holds_ok hX.1 htt hq hw hc hn hi h1 H1
      exact mid (Or.inr a3) _ H
    · rw [k1] at a2 a3
      exact next _ (fun q => a3 q.1) (fun q => a2 q.1) H
theorem look_ok (hX : CTX L T P M) {h : Nat} (hh : h < 6) (hc : inC P c) {av : Int32} (hA : av.toInt = (ixA h c : Int)) (H : Ev none e 67 0 [some (.ref 104), some (.ref (oN M 109 h)), some (.int av), some (.int c), none, none] [] M v M' 0 0) : v = none ∧ SQ M' ∧ FZ noF lkW noO M M' ∧ OTa (ixA h c) M M' ∧ OKv T P M' h c := by
  have hS := hX.1.1
  have htt := hab_t hS.1 hh
  obtain ⟨hr, H⟩ := loo_0 hS htt H
  have hA2 : ixA h c < 1536 := by omega
  rw [cl_n hA] at H
  have hF : FZ noF lkW noO M (wI M 128 (ixA h c) 0) := lk_wI1
  obtain ⟨M1, c5, s1, s2, s3, s4, s5, H⟩ := loo_z (fun m hm => by rw [hF.on (fun q => q)]; exact hX.2.2.2.1 m hm) hS.ki htt hA hA2 7 0 0 none rfl (by decide) (fun m hm => absurd hm (Nat.not_lt_zero m)) H
  have hF2 := hF.trans s2
  obtain ⟨r1, r2, r3, r4, r5, r6⟩ := loo_l h hh hc hA hA2 (T (h + 1)).2 M1 0 0 c5 false (fun _ => 0) (hX.lk s1 hF2) (by rw [hF2.on (fun q => q)]) rfl rfl (Nat.zero_le _) (by rw [s4, rN_wI_eq (by rw [row128 hS.1]; exact hA2)]; rfl) (fun m hm => s5 m hm) H
  refine ⟨r1, r2, hF2.trans r3, (OTa.wI.trans s3).trans r4, ?_, fun m hm => r6 m hm⟩
  rw [r5, Bool.false_or]
theorem VC.look {h : Nat} {c : Int32} (hw : wh4 P) (hV : VC T P M) (hO : OTa (ixA h c) M M') (hK : OKv T P M' h c) (hc : inC P c) (hh : h < 6) : VC T P M' := by
  intro h2 c2 hh2 hc2
  obtain ⟨_, c256, _⟩ := cls_int hw
  have b1 := hc.2
  have b2 := hc2.2
  by_cases hx : ixA h2 c2 = ixA h c
  · unfold ixA at hx
    have e1 : h2 = h := by omega
    have e2 : c2 = c := by
      refine Int32.toInt_inj.mp ?_
      have := Int.toNat_of_nonneg hc.1
      have := Int.toNat_of_nonneg hc2.1
      omega
    subst e1 e2
    exact Or.inr hK
  · rcases hV h2 c2 hh2 hc2 with q | ⟨q1, q2⟩
    · refine Or.inl ?_
      rw [hO 128 _ (Or.inl rfl) hx]
      exact q
    · refine Or.inr ⟨?_, fun m hm => ?_⟩
      · rw [hO 128 _ (Or.inl rfl) hx]
        exact q1
      · rw [hO (130 + m) _ (Or.inr ⟨by omega, by omega⟩) hx]
        exact q2 m hm
theorem ix_av {h : Nat} {ha : Int32} (hw : wh4 P) (hc : inC P c) (hh : ha.toInt = (h : Int)) (h6 : h < 6) : (256 * ha + c).toInt = (ixA h c : Int) ∧ (256 * ha + c) - (256 * ha + c) / 256 * 256 = c := by
  obtain ⟨c0, _, c2⟩ := hc.lt hw
  have e256 : (256 : Int32).toInt = 256 := rfl
  have e0 : (256 : Int32).toInt * ha.toInt = 256 * (h : Int) := by rw [e256, hh]
  have e1 : (256 * ha).toInt = 256 * (h : Int) := by rw [i32_mul (by omega) (by omega), e0]
  have e2 : (256 * ha + c).toInt = 256 * (h : Int) + c.toInt := by rw [i32_add (by omega) (by omega), e1]
  have e3 : ((256 * ha + c) / 256).toInt = (h : Int) := by
    rw [i32_div (by decide), e256, e2, Int.tdiv_eq_ediv_of_nonneg (by omega)]
    omega
  have e4 : ((256 * ha + c) / 256 * 256).toInt = 256 * (h : Int) := by
    rw [i32_mul (by rw [e3, e256]; omega) (by rw [e3, e256]; omega), e3, e256]
    omega
  refine ⟨?_, Int32.toInt_inj.mp ?_⟩
  · rw [e2]
    unfold ixA
    have := Int.toNat_of_nonneg c0
    omega
  · rw [i32_sub (by rw [e2, e4]; omega) (by rw [e2, e4]; omega), e2, e4]
    omega
theorem abs_ok (x : Int32) : (if 0 ≤ x then x else 0 - x) = absI x := by
  unfold absI
  by_cases h : x < 0
  · rw [if_pos h, if_neg (fun q => by rw [i32_z] at h; have := Int32.le_iff_toInt_le.mp q; have e : (0 : Int32).toInt = 0 := rfl; omega)]
    grind
  · rw [if_neg h, if_pos (Int32.le_iff_toInt_le.mpr (by rw [i32_z] at h; have e : (0 : Int32).toInt = 0 := rfl; omega))]
theorem grn_a {bd we : Int32} (b1 : 1 ≤ bd.toInt) (b2 : bd.toInt ≤ 999) (w0 : 0 ≤ we.toInt) : (if 0 < bd - we then bd - we else 0) / 10 = (if ¬ bd ≤ we then (bd - we) / 10 else 0) := by
  have hwe := (i32_lt we).2
  have e0 : (0 : Int32).toInt = 0 := rfl
  have e1 : (bd - we).toInt = bd.toInt - we.toInt := i32_sub (by omega) (by omega)
  by_cases h : bd ≤ we
  · have h1 := Int32.le_iff_toInt_le.mp h
    rw [if_neg (by rw [Int32.lt_iff_toInt_lt]; omega), if_neg (fun q => q h)]
    rfl
  · have h1 : ¬ bd.toInt ≤ we.toInt := fun q => h (Int32.le_iff_toInt_le.mpr q)
    rw [if_pos (by rw [Int32.lt_iff_toInt_lt]; omega), if_pos h]
theorem dst_ok (hX : CTX L T P M) (hc : inC P c) {go : Int32} (hg : inC P go) : G_4 M c go = dstP P c go := by
  obtain ⟨x1, y1, _⟩ := hX.2.2.2.2.1 c hc
  obtain ⟨x2, y2, _⟩ := hX.2.2.2.2.1 go hg
  unfold G_4 dstP
  rw [x1, y1, x2, y2, abs_ok, abs_ok]
  show 10 * (if acrP P c go < aloP P c go then aloP P c go else acrP P c go) + 4 * (if aloP P c go < acrP P c go then aloP P c go else acrP P c go) = _
  by_cases h : aloP P c go < acrP P c go
  · rw [if_pos h, if_pos h, if_neg (fun q => by rw [Int32.lt_iff_toInt_lt] at h q; omega)]
  · rw [if_neg h, if_neg h]
    by_cases h2 : acrP P c go < aloP P c go
    · rw [if_pos h2]
    · rw [if_neg h2]
      have : acrP P c go = aloP P c go := Int32.toInt_inj.mp (by rw [Int32.lt_iff_toInt_lt] at h h2; omega)
      rw [this]
theorem toP_rng {here goal : Int32} : ∀ (n : Nat) (d : Int32), 0 ≤ d.toInt → d.toInt + (n : Int) ≤ 1000 → toP P here goal n d = -1 ∨ 0 ≤ (toP P here goal n d).toInt := by
  intro n
  induction n with
  | zero => intro d _ _; exact Or.inl rfl
  | succ n ih =>
    intro d h0 h1
    unfold toP
    split
    · exact Or.inr h0
    · exact ih (d + 1) (by rw [i32_p1 (by omega)]; omega) (by rw [i32_p1 (by omega)]; omega)
/-- WHAT THE LINES ADD (w) -/
theorem weiw_ok {b : Nat} (hb0 : gNth sT b = some 21) (hX : CTX L T P M) {h : Nat} {ha : Int32} (hh : ha.toInt = (h : Int)) (h6 : h < 6) (hc : inC P c) (d0 : 0 ≤ d.toInt) (d1 : d.toInt < 8) (hK : OKv T P M h c) (hn : inC P (zI M b 0)) {al : Bool} (hal : zI M 104 8 = bI al) (hway : -1 ≤ (zI M b 4).toInt) {w : WC} (hw : w = (zI M b 0, w.2.1, zI M b 4, zI M b 3, al)) (H : Ev none e 68 0 [some (.ref 104), some (.ref b), some (.int (256 * ha + c)), some (.int d), some (.int (siQ (T (h + 1)))), none, none] [] M v M' 0 0) : M' = M ∧ v = some (.int (totP (meaQ (T 0) P (T (h + 1)) w c d) (fun m => sumL (T 0) P (T (h + 1)) c m (T (h + 1)).2 0))) := by
  obtain ⟨⟨hS, hL, hT, l1, l2, l3, hC⟩, hwh, hnn, hsx, hgr, ⟨htx, hlw⟩, hhb, hcr⟩ := id hX
  obtain ⟨f1, f2⟩ := ix_av hwh hc hh h6
  obtain ⟨n2, n3, n4, n5⟩ := hnn c hc
  have hlh := (hhb h h6).2
  have e0 : (0 : Int32).toInt = 0 := rfl
  have sv : ∀ m, m < 7 → rI M (oI M 129 (nI m)) (256 * ha + c) = sumL (T 0) P (T (h + 1)) c (nI m) (T (h + 1)).2 0 := fun m hm => by
    rw [oI_sum hsx (nI_toInt (by omega)) hm, rI_n f1]
    exact hK.2 m hm
  obtain ⟨s, es⟩ : ∃ s : Int32 → Int32, s = fun m => sumL (T 0) P (T (h + 1)) c m (T (h + 1)).2 0 := ⟨_, rfl⟩
  have sv : ∀ m, m < 7 → rI M (oI M 129 (nI m)) (256 * ha + c) = s (nI m) := fun m hm => by rw [es]; exact sv m hm
  have snn : ∀ m, 0 ≤ (s m).toInt := fun m => by
    rw [es]
    refine sumL_rng _ (fun l hl h5 => ?_) 0 (by decide) ?_
    · have := (hlh l hl).1
      exact ⟨this.1, (this.2.2.1 h5).1⟩
    · have := (hhb h h6).1.1.2.1
      omega
  rw [← es]
  obtain ⟨a, ea⟩ : ∃ a, a = meaQ (T 0) P (T (h + 1)) w c d := ⟨_, rfl⟩
  rw [← ea]
  have s0 := sv 0 (by decide)
  have s1 := sv 1 (by decide)
  have s2 := sv 2 (by decide)
  have s3 := sv 3 (by decide)
  have s4 := sv 4 (by decide)
  have s5 := sv 5 (by decide)
  have s6 := sv 6 (by decide)
  have r2 : ∀ c2, inC P c2 → rI M (L + 3) c2 = cE P 2 c2 := fun c2 hc2 => hC.at hc2 (f := 2) (by decide)
  have r3 : rI M (L + 4) c = cE P 3 c := hC.at hc (f := 3) (by decide)
  have r4 : rI M (L + 5) c = cE P 4 c := hC.at hc (f := 4) (by decide)
  obtain ⟨b1, b2⟩ := bd_rng hlw
  have z0 : ∀ m, s m ≤ 0 → s m = 0 := fun m q => Int32.toInt_inj.mp (by have := Int32.le_iff_toInt_le.mp q; have := snn m; omega)
  have a0 : a 0 = (if grnB P c = true ∧ ¬ bdQ (T 0) ≤ cE P 3 c then (bdQ (T 0) - cE P 3 c) / 10 else 0) := by rw [ea]; rfl
  have a1 : a 1 = cE P 4 c / 10 := by rw [ea]; rfl
  have a2 : a 2 = absI (cE P 2 c - cE P 2 (zI M b 0)) := by rw [ea, hw]; rfl
  have a3 : a 3 = (if al = true then 0 else crdP P c (P 157).toInt.toNat) := by rw [ea, hw]; rfl
  have a4 : a 4 = (if 0 ≤ zI M b 4 ∧ ¬ zI M b 4 = d then 1 else 0) := by rw [ea, hw]; rfl
  have a5 : a 5 = (if c = zI M b 3 then 1 else 0) := by rw [ea, hw]; rfl
  have a6 : a 6 = seeP (T 0) P d (siQ (T (h + 1))).toInt.toNat c 0 := by rw [ea]; rfl
  have st0 : ∃ wt, wt = s 0 * a 0 ∧ Ev none e 68 72 [some (.ref 104), some (.ref b), some (.int (256 * ha + c)), some (.int d), some (.int (siQ (T (h + 1)))), some (.int c), some (.int wt)] [] M v M' 0 0 := by
    rcases weiw_0 hS hb0 H with ⟨q1, _, _, H⟩ | ⟨_, q1, _, _, H⟩ | ⟨_, q1, _, _, _, _, _, H⟩
    · rw [f2] at H
      rw [show rI M (oI M 129 0) (256 * ha + c) = s 0 from s0] at q1
      refine ⟨_, ?_, H⟩
      rw [z0 0 q1]
      grind
    · rw [f2] at H q1
      rw [hL, g8_ok hX.1 hc, bI_0] at q1
      refine ⟨_, ?_, H⟩
      rw [a0, if_neg (fun q => by rw [q1] at q; cases q.1)]
      grind
    · rw [f2] at H q1
      rw [hL, g8_ok hX.1 hc, bI_0, Bool.not_eq_false] at q1
      refine ⟨_, ?_, H⟩
      rw [hL, r3, l1, grn_a b1 b2 n3, a0, show rI M (oI M 129 0) (256 * ha + c) = s 0 from s0]
      by_cases hb : bdQ (T 0) ≤ cE P 3 c
      · rw [if_neg (fun q => q hb), if_neg (fun q => q.2 hb)]
        grind
      · rw [if_pos hb, if_pos ⟨q1, hb⟩]
        grind
  obtain ⟨w0, ew0, H⟩ := st0
  obtain ⟨_, _, _, _, _, _, _, H⟩ := weiw_72 hS hb0 H
  rw [hL, r4, r2 c hc, r2 _ hn, abs_ok, ← a1, ← a2, show rI M (oI M 129 1) (256 * ha + c) = s 1 from s1, show rI M (oI M 129 2) (256 * ha + c) = s 2 from s2] at H
  have st3 : ∃ wt, wt = w0 + s 1 * a 1 + s 2 * a 2 + s 3 * a 3 ∧ Ev none e 68 174 [some (.ref 104), some (.ref b), some (.int (256 * ha + c)), some (.int d), some (.int (siQ (T (h + 1)))), some (.int c), some (.int wt)] [] M v M' 0 0 := by
    rcases weiw_139 hS hb0 H with ⟨q1, _, _, _, H⟩ | ⟨q1, H⟩
    · rw [hal, bI_0] at q1
      refine ⟨_, ?_, H⟩
      rw [hL, hcr c hc, a3, q1, if_neg (by decide), show rI M (oI M 129 3) (256 * ha + c) = s 3 from s3]
    · rw [hal, bI_0, Bool.not_eq_false] at q1
      refine ⟨_, ?_, H⟩
      rw [a3, q1, if_pos rfl]
      grind
  obtain ⟨w3, ew3, H⟩ := st3
  have st4 : ∃ wt, wt = w3 + s 4 * a 4 ∧ Ev none e 68 207 [some (.ref 104), some (.ref b), some (.int (256 * ha + c)), some (.int d), some (.int (siQ (T (h + 1)))), some (.int c), some (.int wt)] [] M v M' 0 0 := by
    rcases weiw_174 hS hb0 H with ⟨q1, H⟩ | ⟨_, q1, H⟩ | ⟨q1, q2, _, _, H⟩
    · refine ⟨_, ?_, H⟩
      rw [a4, if_neg (fun q => by rw [q1] at q; exact absurd q.1 (by decide))]
      grind
    · refine ⟨_, ?_, H⟩
      rw [a4, if_neg (fun q => q.2 q1)]
      grind
    · refine ⟨_, ?_, H⟩
      have q3 : 0 ≤ zI M b 4 := Int32.le_iff_toInt_le.mpr (by
        have e1 : (-1 : Int32).toInt = -1 := rfl
        have : (zI M b 4).toInt ≠ -1 := fun q => q1 (Int32.toInt_inj.mp (q.trans e1.symm))
        omega)
      rw [a4, if_pos ⟨q3, q2⟩, show rI M (oI M 129 4) (256 * ha + c) = s 4 from s4]
      grind
  obtain ⟨w4, ew4, H⟩ := st4
  have st5 : ∃ wt, wt = w4 + s 5 * a 5 ∧ Ev none e 68 233 [some (.ref 104), some (.ref b), some (.int (256 * ha + c)), some (.int d), some (.int (siQ (T (h + 1)))), some (.int c), some (.int wt)] [] M v M' 0 0 := by
    rcases weiw_207 hS hb0 H with ⟨q1, _, _, H⟩ | ⟨q1, H⟩
    · refine ⟨_, ?_, H⟩
      rw [a5, if_pos q1.symm, show rI M (oI M 129 5) (256 * ha + c) = s 5 from s5]
      grind
    · refine ⟨_, ?_, H⟩
      rw [a5, if_neg (fun q => q1 q.symm)]
      grind
  obtain ⟨w5, ew5, H⟩ := st5
  have fin : ∀ x, x = w5 - s 6 * a 6 → x = totP a s := fun x hx => by
    rw [hx, ew5, ew4, ew3, ew0]
    unfold totP
    rfl
  rcases weiw_233 hS hb0 H with ⟨q1, _, _, H⟩ | ⟨_, _, _, _, _, e1, v1, M1, rfl, H1, H⟩
  · rw [show rI M (oI M 129 6) (256 * ha + c) = s 6 from s6] at q1
    obtain ⟨h1, h2⟩ := weiw_269 hS hb0 H
    refine ⟨h2, ?_⟩
    rw [h1, fin w5 (by rw [z0 6 q1]; grind)]
  · obtain ⟨rfl, rfl⟩ := wha_ok hX d0 d1 hc (si_rng hlh).1 H1
    obtain ⟨h1, h2⟩ := weiw_265 hS hb0 H
    refine ⟨h2, ?_⟩
    have s6' : rI M1 (oI M1 129 6) (256 * ha + c) = s 6 := s6
    rw [s6', ← a6] at h1
    rw [h1, fin _ rfl]
/-- WHAT THE LINES ADD (s) -/
theorem weis_ok (hX : CTX L T P M) {h : Nat} {ha : Int32} (hh : ha.toInt = (h : Int)) (h6 : h < 6) (hc : inC P c) (d0 : 0 ≤ d.toInt) (d1 : d.toInt < 8) (hK : OKv T P M h c) (hn : inC P (zI M 137 0)) {al : Bool} (hal : zI M 104 8 = bI al) (hway : -1 ≤ (zI M 137 4).toInt) {w : WC} (hw : w = (zI M 137 0, w.2.1, zI M 137 4, zI M 137 3, al)) (H : Ev none e 68 0 [some (.ref 104), some (.ref 137), some (.int (256 * ha + c)), some (.int d), some (.int (siQ (T (h + 1)))), none, none] [] M v M' 0 0) : M' = M ∧ v = some (.int (totP (meaQ (T 0) P (T (h + 1)) w c d) (fun m => sumL (T 0) P (T (h + 1)) c m (T (h + 1)).2 0))) := by
  obtain ⟨⟨hS, hL, hT, l1, l2, l3, hC⟩, hwh, hnn, hsx, hgr, ⟨htx, hlw⟩, hhb, hcr⟩ := id hX
  obtain ⟨f1, f2⟩ := ix_av hwh hc hh h6
  obtain ⟨n2, n3, n4, n5⟩ := hnn c hc
  have hlh := (hhb h h6).2
  have e0 : (0 : Int32).toInt = 0 := rfl
  have sv : ∀ m, m < 7 → rI M (oI M 129 (nI m)) (256 * ha + c) = sumL (T 0) P (T (h + 1)) c (nI m) (T (h + 1)).2 0 := fun m hm => by
    rw [oI_sum hsx (nI_toInt (by omega)) hm, rI_n f1]
    exact hK.2 m hm
  obtain ⟨s, es⟩ : ∃ s : Int32 → Int32, s = fun m => sumL (T 0) P (T (h + 1)) c m (T (h + 1)).2 0 := ⟨_, rfl⟩
  have sv : ∀ m, m < 7 → rI M (oI M 129 (nI m)) (256 * ha + c) = s (nI m) := fun m hm => by rw [es]; exact sv m hm
  have snn : ∀ m, 0 ≤ (s m).toInt := fun m => by
    rw [es]
    refine sumL_rng _ (fun l hl h5 => ?_) 0 (by decide) ?_
    · have := (hlh l hl).1
      exact ⟨this.1, (this.2.2.1 h5).1⟩
    · have := (hhb h h6).1.1.2.1
      omega
  rw [← es]
  obtain ⟨a, ea⟩ : ∃ a, a = meaQ (T 0) P (T (h + 1)) w c d := ⟨_, rfl⟩
  rw [← ea]
  have s0 := sv 0 (by decide)
  have s1 := sv 1 (by decide)
  have s2 := sv 2 (by decide)
  have s3 := sv 3 (by decide)
  have s4 := sv 4 (by decide)
  have s5 := sv 5 (by decide)
  have s6 := sv 6 (by decide)
  have r2 : ∀ c2, inC P c2 → rI M (L + 3) c2 = cE P 2 c2 := fun c2 hc2 => hC.at hc2 (f := 2) (by decide)
  have r3 : rI M (L + 4) c = cE P 3 c := hC.at hc (f := 3) (by decide)
  have r4 : rI M (L + 5) c = cE P 4 c := hC.at hc (f := 4) (by decide)
  obtain ⟨b1, b2⟩ := bd_rng hlw
  have z0 : ∀ m, s m ≤ 0 → s m = 0 := fun m q => Int32.toInt_inj.mp (by have := Int32.le_iff_toInt_le.mp q; have := snn m; omega)
  have a0 : a 0 = (if grnB P c = true ∧ ¬ bdQ (T 0) ≤ cE P 3 c then (bdQ (T 0) - cE P 3 c) / 10 else 0) := by rw [ea]; rfl
  have a1 : a 1 = cE P 4 c / 10 := by rw [ea]; rfl
  have a2 : a 2 = absI (cE P 2 c - cE P 2 (zI M 137 0)) := by rw [ea, hw]; rfl
  have a3 : a 3 = (if al = true then 0 else crdP P c (P 157).toInt.toNat) := by rw [ea, hw]; rfl
  have a4 : a 4 = (if 0 ≤ zI M 137 4 ∧ ¬ zI M 137 4 = d then 1 else 0) := by rw [ea, hw]; rfl
  have a5 : a 5 = (if c = zI M 137 3 then 1 else 0) := by rw [ea, hw]; rfl
  have a6 : a 6 = seeP (T 0) P d (siQ (T (h + 1))).toInt.toNat c 0 := by rw [ea]; rfl
  have st0 : ∃ wt, wt = s 0 * a 0 ∧ Ev none e 68 72 [some (.ref 104), some (.ref 137), some (.int (256 * ha + c)), some (.int d), some (.int (siQ (T (h + 1)))), some (.int c), some (.int wt)] [] M v M' 0 0 := by
    rcases weis_0 hS H with ⟨q1, _, _, H⟩ | ⟨_, q1, _, _, H⟩ | ⟨_, q1, _, _, _, _, _, H⟩
    · rw [f2] at H
      rw [show rI M (oI M 129 0) (256 * ha + c) = s 0 from s0] at q1
      refine ⟨_, ?_, H⟩
      rw [z0 0 q1]
      grind
    · rw [f2] at H q1
      rw [hL, g8_ok hX.1 hc, bI_0] at q1
      refine ⟨_, ?_, H⟩
      rw [a0, if_neg (fun q => by rw [q1] at q; cases q.1)]
      grind
    · rw [f2] at H q1
      rw [hL, g8_ok hX.1 hc, bI_0, Bool.not_eq_false] at q1
      refine ⟨_, ?_, H⟩
      rw [hL, r3, l1, grn_a b1 b2 n3, a0, show rI M (oI M 129 0) (256 * ha + c) = s 0 from s0]
      by_cases hb : bdQ (T 0) ≤ cE P 3 c
      · rw [if_neg (fun q => q hb), if_neg (fun q => q.2 hb)]
        grind
      · rw [if_pos hb, if_pos ⟨q1, hb⟩]
        grind
  obtain ⟨w0, ew0, H⟩ := st0
  obtain ⟨_, _, _, _, _, _, _, H⟩ := weis_72 hS H
  rw [hL, r4, r2 c hc, r2 _ hn, abs_ok, ← a1, ← a2, show rI M (oI M 129 1) (256 * ha + c) = s 1 from s1, show rI M (oI M 129 2) (256 * ha + c) = s 2 from s2] at H
  have st3 : ∃ wt, wt = w0 + s 1 * a 1 + s 2 * a 2 + s 3 * a 3 ∧ Ev none e 68 174 [some (.ref 104), some (.ref 137), some (.int (256 * ha + c)), some (.int d), some (.int (siQ (T (h + 1)))), some (.int c), some (.int wt)] [] M v M' 0 0 := by
    rcases weis_139 hS H with ⟨q1, _, _, _, H⟩ | ⟨q1, H⟩
    · rw [hal, bI_0] at q1
      refine ⟨_, ?_, H⟩
      rw [hL, hcr c hc, a3, q1, if_neg (by decide), show rI M (oI M 129 3) (256 * ha + c) = s 3 from s3]
    · rw [hal, bI_0, Bool.not_eq_false] at q1
      refine ⟨_, ?_, H⟩
      rw [a3, q1, if_pos rfl]
      grind
  obtain ⟨w3, ew3, H⟩ := st3
  have st4 : ∃ wt, wt = w3 + s 4 * a 4 ∧ Ev none e 68 207 [some (.ref 104), some (.ref 137), some (.int (256 * ha + c)), some (.int d), some (.int (siQ (T (h + 1)))), some (.int c), some (.int wt)] [] M v M' 0 0 := by
    rcases weis_174 hS H with ⟨q1, H⟩ | ⟨_, q1, H⟩ | ⟨q1, q2, _, _, H⟩
    · refine ⟨_, ?_, H⟩
      rw [a4, if_neg (fun q => by rw [q1] at q; exact absurd q.1 (by decide))]
      grind
    · refine ⟨_, ?_, H⟩
      rw [a4, if_neg (fun q => q.2 q1)]
      grind
    · refine ⟨_, ?_, H⟩
      have q3 : 0 ≤ zI M 137 4 := Int32.le_iff_toInt_le.mpr (by
        have e1 : (-1 : Int32).toInt = -1 := rfl
        have : (zI M 137 4).toInt ≠ -1 := fun q => q1 (Int32.toInt_inj.mp (q.trans e1.symm))
        omega)
      rw [a4, if_pos ⟨q3, q2⟩, show rI M (oI M 129 4) (256 * ha + c) = s 4 from s4]
      grind
  obtain ⟨w4, ew4, H⟩ := st4
  have st5 : ∃ wt, wt = w4 + s 5 * a 5 ∧ Ev none e 68 233 [some (.ref 104), some (.ref 137), some (.int (256 * ha + c)), some (.int d), some (.int (siQ (T (h + 1)))), some (.int c), some (.int wt)] [] M v M' 0 0 := by
    rcases weis_207 hS H with ⟨q1, _, _, H⟩ | ⟨q1, H⟩
    · refine ⟨_, ?_, H⟩
      rw [a5, if_pos q1.symm, show rI M (oI M 129 5) (256 * ha + c) = s 5 from s5]
      grind
    · refine ⟨_, ?_, H⟩
      rw [a5, if_neg (fun q => q1 q.symm)]
      grind
  obtain ⟨w5, ew5, H⟩ := st5
  have fin : ∀ x, x = w5 - s 6 * a 6 → x = totP a s := fun x hx => by
    rw [hx, ew5, ew4, ew3, ew0]
    unfold totP
    rfl
  rcases weis_233 hS H with ⟨q1, _, _, H⟩ | ⟨_, _, _, _, _, e1, v1, M1, rfl, H1, H⟩
  · rw [show rI M (oI M 129 6) (256 * ha + c) = s 6 from s6] at q1
    obtain ⟨h1, h2⟩ := weis_269 hS H
    refine ⟨h2, ?_⟩
    rw [h1, fin w5 (by rw [z0 6 q1]; grind)]
  · obtain ⟨rfl, rfl⟩ := wha_ok hX d0 d1 hc (si_rng hlh).1 H1
    obtain ⟨h1, h2⟩ := weis_265 hS H
    refine ⟨h2, ?_⟩
    have s6' : rI M1 (oI M1 129 6) (256 * ha + c) = s 6 := s6
    rw [s6', ← a6] at h1
    rw [h1, fin _ rfl]
/-- WHERE A WALKER GOES (w) -/
theorem wtow_loop (hX : CTX L T P M) {here go : Int32} (hc : inC P here) : ∀ (n k : Nat) (d : Int32), d.toInt = (k : Int) → k + n = 8 → Ev none e 3 2 [some (.ref 105), some (.int here), some (.int go), some (.int d)] [] M v M' 0 0 → M' = M ∧ v = some (.int (toP P here go n d)) := by
  have hS := hX.1.1
  have e8 : (8 : Int32).toInt = 8 := rfl
  intro n
  induction n with
  | zero =>
    intro k d hd hk H
    rcases wto_2 hS H with ⟨_, h1, h2⟩ | ⟨a1, _⟩ | ⟨a1, _⟩
    · exact ⟨h2, h1⟩
    all_goals exact absurd (Int32.le_iff_toInt_le.mpr (by omega)) a1
  | succ n ih =>
    intro k d hd hk H
    have hb := (hX.2.2.2.2.1 here hc).2.2 d (by omega) (by omega)
    unfold toP
    rcases wto_2 hS H with ⟨a1, _⟩ | ⟨_, a2, _, h1, h2⟩ | ⟨_, a2, _, H⟩
    · have := Int32.le_iff_toInt_le.mp a1
      omega
    · rw [hb] at a2
      rw [if_pos a2]
      exact ⟨h2, h1⟩
    · rw [hb] at a2
      rw [if_neg a2]
      exact ih (k + 1) (d + 1) (by rw [i32_p1 (by omega)]; omega) (by omega) H
theorem chow_loop {b : Nat} (hb0 : gNth sT b = some 21) {h : Nat} {ha go : Int32} (hh : ha.toInt = (h : Int)) (h6 : h < 6) (hgo : inC P go) {al : Bool} {w : WC} : ∀ (n k : Nat) (M : Mem) (be le d : Int32) (c7 c8 c9 : Option Value), CTX L T P M → VC T P M → inC P (zI M b 0) → zI M 104 8 = bI al → -1 ≤ (zI M b 4).toInt → w = (zI M b 0, go, zI M b 4, zI M b 3, al) → d.toInt = (k : Int) → k + n = 8 → -1 ≤ be.toInt → Ev none e 66 29 [some (.ref 104), some (.ref b), some (.int go), some (.int ha), some (.int be), some (.int le), some (.int d), c7, c8, c9] [] M v M' 0 0 → v = some (.int (bstP (T 0) P (T (h + 1)) w n d be le)) ∧ SQ M' ∧ FZ noF lkW noO M M' ∧ VC T P M' := by
  have e8 : (8 : Int32).toInt = 8 := rfl
  have e0 : (0 : Int32).toInt = 0 := rfl
  have em : (-1 : Int32).toInt = -1 := rfl
  intro n
  induction n with
  | zero =>
    intro k M be le d c7 c8 c9 hX hV hi hal hwy hw hd hk hbe H
    have hS := hX.1.1
    rcases chow_29 hS hb0 H with ⟨_, h1, h2⟩ | ⟨a1, _⟩ | ⟨a1, _⟩ | ⟨a1, _⟩ | ⟨a1, _⟩
    · subst h2
      exact ⟨h1, hS, FZ.refl _, hV⟩
    all_goals exact absurd (Int32.le_iff_toInt_le.mpr (by omega)) a1
  | succ n ih =>
    intro k M be le d c7 c8 c9 hX hV hi hal hwy hw hd hk hbe H
    have hS := hX.1.1
    have hL := hX.1.2.1
    have hwh := hX.2.1
    have d0 : 0 ≤ d.toInt := by omega
    have d1 : d.toInt < 8 := by omega
    have hb := (hX.2.2.2.2.1 _ hi).2.2 d d0 d1
    have hd1 : (d + 1).toInt = ((k + 1 : Nat) : Int) := by
      rw [i32_p1 (by omega)]
      omega
    have hlw := fun l hl h5 => ((((hX.2.2.2.2.2.2.1 h h6).2 l hl).1).2.2.1 h5).2
    have w1 : w.1 = zI M b 0 := by rw [hw]
    have w2 : w.2.1 = go := by rw [hw]
    unfold bstP
    rw [w1]
    have bes := besP_in (d := d) hwh hi
    have skip : ∀ c7 c8 c9 M2, badB (T 0) P (T (h + 1)) (besP P (zI M b 0) d) = true → CTX L T P M2 → VC T P M2 → SQ M2 → FZ noF lkW noO M M2 → Ev none e 66 29 [some (.ref 104), some (.ref b), some (.int go), some (.int ha), some (.int be), some (.int le), some (.int (d + 1)), c7, c8, c9] [] M2 v M' 0 0 → v = some (.int (if badB (T 0) P (T (h + 1)) (besP P (zI M b 0) d) = true ∨ (0 ≤ be ∧ le ≤ weiP (T 0) P (T (h + 1)) w (besP P (zI M b 0) d) d) then bstP (T 0) P (T (h + 1)) w n (d + 1) be le else bstP (T 0) P (T (h + 1)) w n (d + 1) d (weiP (T 0) P (T (h + 1)) w (besP P (zI M b 0) d) d))) ∧ SQ M' ∧ FZ noF lkW noO M M' ∧ VC T P M' := fun c7 c8 c9 M2 hbad hX2 hV2 hS2 hF2 H => by
      rw [if_pos (Or.inl hbad)]
      have z : ∀ k, zI M2 b k = zI M b k := fun k => hF2.fi (fun q => q)
      obtain ⟨r1, r2, r3, r4⟩ := ih (k + 1) M2 be le (d + 1) c7 c8 c9 hX2 hV2 (by rw [z]; exact hi) (by rw [hF2.fi (fun q => q)]; exact hal) (by rw [z]; exact hwy) (by rw [z, z, z]; exact hw) hd1 (by omega) hbe H
      exact ⟨r1, r2, hF2.trans r3, r4⟩
    have look : ∀ c9 M2, ¬ besP P (zI M b 0) d = -1 → opnB P (besP P (zI M b 0) d) = true → CTX L T P M2 → VC T P M2 → SQ M2 → FZ noF lkW noO M M2 → OKv T P M2 h (besP P (zI M b 0) d) → Ev none e 66 112 [some (.ref 104), some (.ref b), some (.int go), some (.int ha), some (.int be), some (.int le), some (.int d), some (.int (besP P (zI M b 0) d)), some (.int (256 * ha + besP P (zI M b 0) d)), c9] [] M2 v M' 0 0 → v = some (.int (if badB (T 0) P (T (h + 1)) (besP P (zI M b 0) d) = true ∨ (0 ≤ be ∧ le ≤ weiP (T 0) P (T (h + 1)) w (besP P (zI M b 0) d) d) then bstP (T 0) P (T (h + 1)) w n (d + 1) be le else bstP (T 0) P (T (h + 1)) w n (d + 1) d (weiP (T 0) P (T (h + 1)) w (besP P (zI M b 0) d) d))) ∧ SQ M' ∧ FZ noF lkW noO M M' ∧ VC T P M' := fun c9 M2 hne hop hX2 hV2 hS2 hF2 hK H => by
      have hc : inC P (besP P (zI M b 0) d) := bes.elim (fun q => absurd q hne) id
      obtain ⟨c, ec⟩ : ∃ c, c = besP P (zI M b 0) d := ⟨_, rfl⟩
      rw [← ec] at hc hop hK H skip ⊢
      have z : ∀ k, zI M2 b k = zI M b k := fun k => hF2.fi (fun q => q)
      have hcn : ¬ c < 0 := fun q => by rw [i32_z] at q; have := hc.1; omega
      obtain ⟨f1, f2⟩ := ix_av hwh hc hh h6
      have hvd : rI M2 128 (256 * ha + c) = bI (nevL (T 0) P (T (h + 1)) c (T (h + 1)).2) := by
        rw [rI_n f1]
        exact hK.1
      rcases chow_112 hS2 hb0 H with ⟨a1, _, H⟩ | ⟨a1, _, _, e1, v1, M3, rfl, H1, H⟩
      · rw [hvd, bI_1] at a1
        exact skip _ _ _ M2 (by unfold badB; rw [a1, Bool.or_true, Bool.or_true]) hX2 hV2 hS2 hF2 H
      · rw [hvd, bI_1, Bool.not_eq_true] at a1
        have hbad : badB (T 0) P (T (h + 1)) c = false := by
          unfold badB
          rw [a1, hop, decide_eq_false hcn]
          rfl
        have hsi : zI M2 (oI M2 109 ha) 13 = siQ (T (h + 1)) := by
          unfold oI
          rw [cl_n hh]
          exact (hX2.2.2.2.2.2.2.1 h h6).1.2.2.2.2.2
        rw [hsi] at H1
        obtain ⟨rfl, rfl⟩ := weiw_ok hb0 hX2 hh h6 hc d0 d1 hK (by rw [z]; exact hi) (by rw [hF2.fi (fun q => q)]; exact hal) (by rw [z]; exact hwy) (w := w) (by rw [z, z, z, w2]; exact hw) H1
        have hds : G_4 M3 c go = dstP P c w.2.1 := by rw [w2]; exact dst_ok hX2 hc hgo
        have hwt := wei_tot (g := T 0) (P := P) (q := T (h + 1)) (c := c) (d := d) (w := w) hlw
        rw [hds] at H
        rw [hwt]
        have cont : ∀ (b2 l2 : Int32) (c7 c8 c9 : Option Value), -1 ≤ b2.toInt → Ev none (e1 + 1) 66 29 [some (.ref 104), some (.ref b), some (.int go), some (.int ha), some (.int b2), some (.int l2), some (.int (d + 1)), c7, c8, c9] [] M3 v M' 0 0 → v = some (.int (bstP (T 0) P (T (h + 1)) w n (d + 1) b2 l2)) ∧ SQ M' ∧ FZ noF lkW noO M M' ∧ VC T P M' := fun b2 l2 c7 c8 c9 hb2 H => by
          obtain ⟨r1, r2, r3, r4⟩ := ih (k + 1) M3 b2 l2 (d + 1) c7 c8 c9 hX2 hV2 (by rw [z]; exact hi) (by rw [hF2.fi (fun q => q)]; exact hal) (by rw [z]; exact hwy) (by rw [z, z, z]; exact hw) hd1 (by omega) hb2 H
          exact ⟨r1, r2, hF2.trans r3, r4⟩
        rcases chow_154 hS2 hb0 H with ⟨a2, H⟩ | ⟨a2, a3, H⟩ | ⟨a2, a3, H⟩
        · rw [if_neg (fun q => q.elim (fun q => by rw [hbad] at q; cases q) (fun q => by rw [a2] at q; exact absurd q.1 (by decide)))]
          exact cont d _ _ _ _ (by omega) H
        · rw [if_pos (Or.inr ⟨Int32.le_iff_toInt_le.mpr (by have : be.toInt ≠ -1 := fun q => a2 (Int32.toInt_inj.mp (q.trans em.symm)); omega), a3⟩)]
          exact cont be le _ _ _ hbe H
        · rw [if_neg (fun q => q.elim (fun q => by rw [hbad] at q; cases q) (fun q => a3 q.2))]
          exact cont d _ _ _ _ (by omega) H
    rcases chow_29 hS hb0 H with ⟨a1, _⟩ | ⟨_, a2, _, H⟩ | ⟨_, a2, a3, _, H⟩ | ⟨_, a2, a3, a4, _, _, _, e1, v1, M1, rfl, H1, H⟩ | ⟨_, a2, a3, a4, _, _, H⟩
    · have := Int32.le_iff_toInt_le.mp a1
      omega
    · rw [hb] at a2
      exact skip _ _ _ M (by unfold badB; rw [a2, decide_eq_true (by decide), Bool.true_or]) hX hV hS (FZ.refl _) H
    · rw [hb] at a2 a3
      have hc := bes.elim (fun q => absurd q a2) id
      rw [hL, g7_ok hX.1 hc, bI_0] at a3
      exact skip _ _ _ M (by unfold badB; rw [a3, Bool.not_false, Bool.true_or, Bool.or_true]) hX hV hS (FZ.refl _) H
    · rw [hb] at a2 a3 H1 H
      have hc := bes.elim (fun q => absurd q a2) id
      rw [hL, g7_ok hX.1 hc, bI_0, Bool.not_eq_false] at a3
      have ho : oI M 109 ha = oN M 109 h := by
        unfold oI
        rw [cl_n hh]
      rw [ho] at H1
      obtain ⟨rfl, q2, q3, q4, q5⟩ := look_ok hX h6 hc (ix_av hwh hc hh h6).1 H1
      exact look _ M1 a2 a3 (hX.lk q2 q3) (hV.look hwh q4 q5 hc h6) q2 q3 q5 H
    · rw [hb] at a2 a3 a4 H
      have hc := bes.elim (fun q => absurd q a2) id
      rw [hL, g7_ok hX.1 hc, bI_0, Bool.not_eq_false] at a3
      rw [rI_n (ix_av hwh hc hh h6).1] at a4
      rcases hV h _ h6 hc with q | q
      · exact absurd q a4
      · exact look _ M a2 a3 hX hV hS (FZ.refl _) q H
theorem chow_ok {b : Nat} (hb0 : gNth sT b = some 21) (hX : CTX L T P M) (hV : VC T P M) {h : Nat} {ha go : Int32} (hh : ha.toInt = (h : Int)) (h6 : h < 6) (hgo : inC P go) {al : Bool} (hi : inC P (zI M b 0)) (hal : zI M 104 8 = bI al) (hwy : -1 ≤ (zI M b 4).toInt) (H : Ev none e 66 0 [some (.ref 104), some (.ref b), some (.int go), some (.int ha), none, none, none, none, none, none] [] M v M' 0 0) : v = some (.int (choP (T 0) P (T (h + 1)) (zI M b 0, go, zI M b 4, zI M b 3, al))) ∧ SQ M' ∧ FZ noF lkW noO M M' ∧ VC T P M' := by
  have hS := hX.1.1
  obtain ⟨e1, v1, M1, rfl, H1, H⟩ := chow_0 hS hb0 H
  obtain ⟨rfl, rfl⟩ := wtow_loop hX hi 8 0 0 rfl rfl (wto_0 hS H1)
  unfold choP
  have ht := toP_rng (P := P) (here := zI M1 b 0) (goal := go) 8 0 (by decide) (by decide)
  rcases chow_12 hS hb0 H with ⟨a1, H⟩ | ⟨a1, h1, h2⟩
  · rw [if_pos (by rw [a1]; decide)]
    rw [a1] at H
    exact chow_loop hb0 hh h6 hgo 8 0 M1 (-1) 0 0 none none none hX hV hi hal hwy rfl rfl rfl (by decide) H
  · rw [if_neg (fun q => by
      have e : (0 : Int32).toInt = 0 := rfl
      rcases ht with q2 | q2
      · exact a1 q2
      · have q : toP P (zI M1 b 0) go 8 0 < 0 := q
        rw [i32_z] at q
        omega)]
    subst h2
    exact ⟨h1, hS, FZ.refl _, hV⟩
theorem chos_loop {h : Nat} {ha go : Int32} (hh : ha.toInt = (h : Int)) (h6 : h < 6) (hgo : inC P go) {al : Bool} {w : WC} : ∀ (n k : Nat) (M : Mem) (be le d : Int32) (c7 c8 c9 : Option Value), CTX L T P M → VC T P M → inC P (zI M 137 0) → zI M 104 8 = bI al → -1 ≤ (zI M 137 4).toInt → w = (zI M 137 0, go, zI M 137 4, zI M 137 3, al) → d.toInt = (k : Int) → k + n = 8 → -1 ≤ be.toInt → Ev none e 66 29 [some (.ref 104), some (.ref 137), some (.int go), some (.int ha), some (.int be), some (.int le), some (.int d), c7, c8, c9] [] M v M' 0 0 → v = some (.int (bstP (T 0) P (T (h + 1)) w n d be le)) ∧ SQ M' ∧ FZ noF lkW noO M M' ∧ VC T P M' := by
  have e8 : (8 : Int32).toInt = 8 := rfl
  have e0 : (0 : Int32).toInt = 0 := rfl
  have em : (-1 : Int32).toInt = -1 := rfl
  intro n
  induction n with
  | zero =>
    intro k M be le d c7 c8 c9 hX hV hi hal hwy hw hd hk hbe H
    have hS := hX.1.1
    rcases chos_29 hS H with ⟨_, h1, h2⟩ | ⟨a1, _⟩ | ⟨a1, _⟩ | ⟨a1, _⟩ | ⟨a1, _⟩
    · subst h2
      exact ⟨h1, hS, FZ.refl _, hV⟩
    all_goals exact absurd (Int32.le_iff_toInt_le.mpr (by omega)) a1
  | succ n ih =>
    intro k M be le d c7 c8 c9 hX hV hi hal hwy hw hd hk hbe H
    have hS := hX.1.1
    have hL := hX.1.2.1
    have hwh := hX.2.1
    have d0 : 0 ≤ d.toInt := by omega
    have d1 : d.toInt < 8 := by omega
    have hb := (hX.2.2.2.2.1 _ hi).2.2 d d0 d1
    have hd1 : (d + 1).toInt = ((k + 1 : Nat) : Int) := by
      rw [i32_p1 (by omega)]
      omega
    have hlw := fun l hl h5 => ((((hX.2.2.2.2.2.2.1 h h6).2 l hl).1).2.2.1 h5).2
    have w1 : w.1 = zI M 137 0 := by rw [hw]
    have w2 : w.2.1 = go := by rw [hw]
    unfold bstP
    rw [w1]
    have bes := besP_in (d := d) hwh hi
    have skip : ∀ c7 c8 c9 M2, badB (T 0) P (T (h + 1)) (besP P (zI M 137 0) d) = true → CTX L T P M2 → VC T P M2 → SQ M2 → FZ noF lkW noO M M2 → Ev none e 66 29 [some (.ref 104), some (.ref 137), some (.int go), some (.int ha), some (.int be), some (.int le), some (.int (d + 1)), c7, c8, c9] [] M2 v M' 0 0 → v = some (.int (if badB (T 0) P (T (h + 1)) (besP P (zI M 137 0) d) = true ∨ (0 ≤ be ∧ le ≤ weiP (T 0) P (T (h + 1)) w (besP P (zI M 137 0) d) d) then bstP (T 0) P (T (h + 1)) w n (d + 1) be le else bstP (T 0) P (T (h + 1)) w n (d + 1) d (weiP (T 0) P (T (h + 1)) w (besP P (zI M 137 0) d) d))) ∧ SQ M' ∧ FZ noF lkW noO M M' ∧ VC T P M' := fun c7 c8 c9 M2 hbad hX2 hV2 hS2 hF2 H => by
      rw [if_pos (Or.inl hbad)]
      have z : ∀ k, zI M2 137 k = zI M 137 k := fun k => hF2.fi (fun q => q)
      obtain ⟨r1, r2, r3, r4⟩ := ih (k + 1) M2 be le (d + 1) c7 c8 c9 hX2 hV2 (by rw [z]; exact hi) (by rw [hF2.fi (fun q => q)]; exact hal) (by rw [z]; exact hwy) (by rw [z, z, z]; exact hw) hd1 (by omega) hbe H
      exact ⟨r1, r2, hF2.trans r3, r4⟩
    have look : ∀ c9 M2, ¬ besP P (zI M 137 0) d = -1 → opnB P (besP P (zI M 137 0) d) = true → CTX L T P M2 → VC T P M2 → SQ M2 → FZ noF lkW noO M M2 → OKv T P M2 h (besP P (zI M 137 0) d) → Ev none e 66 112 [some (.ref 104), some (.ref 137), some (.int go), some (.int ha), some (.int be), some (.int le), some (.int d), some (.int (besP P (zI M 137 0) d)), some (.int (256 * ha + besP P (zI M 137 0) d)), c9] [] M2 v M' 0 0 → v = some (.int (if badB (T 0) P (T (h + 1)) (besP P (zI M 137 0) d) = true ∨ (0 ≤ be ∧ le ≤ weiP (T 0) P (T (h + 1)) w (besP P (zI M 137 0) d) d) then bstP (T 0) P (T (h + 1)) w n (d + 1) be le else bstP (T 0) P (T (h + 1)) w n (d + 1) d (weiP (T 0) P (T (h + 1)) w (besP P (zI M 137 0) d) d))) ∧ SQ M' ∧ FZ noF lkW noO M M' ∧ VC T P M' := fun c9 M2 hne hop hX2 hV2 hS2 hF2 hK H => by
      have hc : inC P (besP P (zI M 137 0) d) := bes.elim (fun q => absurd q hne) id
      obtain ⟨c, ec⟩ : ∃ c, c = besP P (zI M 137 0) d := ⟨_, rfl⟩
      rw [← ec] at hc hop hK H skip ⊢
      have z : ∀ k, zI M2 137 k = zI M 137 k := fun k => hF2.fi (fun q => q)
      have hcn : ¬ c < 0 := fun q => by rw [i32_z] at q; have := hc.1; omega
      obtain ⟨f1, f2⟩ := ix_av hwh hc hh h6
      have hvd : rI M2 128 (256 * ha + c) = bI (nevL (T 0) P (T (h + 1)) c (T (h + 1)).2) := by
        rw [rI_n f1]
        exact hK.1
      rcases chos_112 hS2 H with ⟨a1, _, H⟩ | ⟨a1, _, _, e1, v1, M3, rfl, H1, H⟩
      · rw [hvd, bI_1] at a1
        exact skip _ _ _ M2 (by unfold badB; rw [a1, Bool.or_true, Bool.or_true]) hX2 hV2 hS2 hF2 H
      · rw [hvd, bI_1, Bool.not_eq_true] at a1
        have hbad : badB (T 0) P (T (h + 1)) c = false := by
          unfold badB
          rw [a1, hop, decide_eq_false hcn]
          rfl
        have hsi : zI M2 (oI M2 109 ha) 13 = siQ (T (h + 1)) := by
          unfold oI
          rw [cl_n hh]
          exact (hX2.2.2.2.2.2.2.1 h h6).1.2.2.2.2.2
        rw [hsi] at H1
        obtain ⟨rfl, rfl⟩ := weis_ok hX2 hh h6 hc d0 d1 hK (by rw [z]; exact hi) (by rw [hF2.fi (fun q => q)]; exact hal) (by rw [z]; exact hwy) (w := w) (by rw [z, z, z, w2]; exact hw) H1
        have hds : G_4 M3 c go = dstP P c w.2.1 := by rw [w2]; exact dst_ok hX2 hc hgo
        have hwt := wei_tot (g := T 0) (P := P) (q := T (h + 1)) (c := c) (d := d) (w := w) hlw
        rw [hds] at H
        rw [hwt]
        have cont : ∀ (b2 l2 : Int32) (c7 c8 c9 : Option Value), -1 ≤ b2.toInt → Ev none (e1 + 1) 66 29 [some (.ref 104), some (.ref 137), some (.int go), some (.int ha), some (.int b2), some (.int l2), some (.int (d + 1)), c7, c8, c9] [] M3 v M' 0 0 → v = some (.int (bstP (T 0) P (T (h + 1)) w n (d + 1) b2 l2)) ∧ SQ M' ∧ FZ noF lkW noO M M' ∧ VC T P M' := fun b2 l2 c7 c8 c9 hb2 H => by
          obtain ⟨r1, r2, r3, r4⟩ := ih (k + 1) M3 b2 l2 (d + 1) c7 c8 c9 hX2 hV2 (by rw [z]; exact hi) (by rw [hF2.fi (fun q => q)]; exact hal) (by rw [z]; exact hwy) (by rw [z, z, z]; exact hw) hd1 (by omega) hb2 H
          exact ⟨r1, r2, hF2.trans r3, r4⟩
        rcases chos_154 hS2 H with ⟨a2, H⟩ | ⟨a2, a3, H⟩ | ⟨a2, a3, H⟩
        · rw [if_neg (fun q => q.elim (fun q => by rw [hbad] at q; cases q) (fun q => by rw [a2] at q; exact absurd q.1 (by decide)))]
          exact cont d _ _ _ _ (by omega) H
        · rw [if_pos (Or.inr ⟨Int32.le_iff_toInt_le.mpr (by have : be.toInt ≠ -1 := fun q => a2 (Int32.toInt_inj.mp (q.trans em.symm)); omega), a3⟩)]
          exact cont be le _ _ _ hbe H
        · rw [if_neg (fun q => q.elim (fun q => by rw [hbad] at q; cases q) (fun q => a3 q.2))]
          exact cont d _ _ _ _ (by omega) H
    rcases chos_29 hS H with ⟨a1, _⟩ | ⟨_, a2, _, H⟩ | ⟨_, a2, a3, _, H⟩ | ⟨_, a2, a3, a4, _, _, _, e1, v1, M1, rfl, H1, H⟩ | ⟨_, a2, a3, a4, _, _, H⟩
    · have := Int32.le_iff_toInt_le.mp a1
      omega
    · rw [hb] at a2
      exact skip _ _ _ M (by unfold badB; rw [a2, decide_eq_true (by decide), Bool.true_or]) hX hV hS (FZ.refl _) H
    · rw [hb] at a2 a3
      have hc := bes.elim (fun q => absurd q a2) id
      rw [hL, g7_ok hX.1 hc, bI_0] at a3
      exact skip _ _ _ M (by unfold badB; rw [a3, Bool.not_false, Bool.true_or, Bool.or_true]) hX hV hS (FZ.refl _) H
    · rw [hb] at a2 a3 H1 H
      have hc := bes.elim (fun q => absurd q a2) id
      rw [hL, g7_ok hX.1 hc, bI_0, Bool.not_eq_false] at a3
      have ho : oI M 109 ha = oN M 109 h := by
        unfold oI
        rw [cl_n hh]
      rw [ho] at H1
      obtain ⟨rfl, q2, q3, q4, q5⟩ := look_ok hX h6 hc (ix_av hwh hc hh h6).1 H1
      exact look _ M1 a2 a3 (hX.lk q2 q3) (hV.look hwh q4 q5 hc h6) q2 q3 q5 H
    · rw [hb] at a2 a3 a4 H
      have hc := bes.elim (fun q => absurd q a2) id
      rw [hL, g7_ok hX.1 hc, bI_0, Bool.not_eq_false] at a3
      rw [rI_n (ix_av hwh hc hh h6).1] at a4
      rcases hV h _ h6 hc with q | q
      · exact absurd q a4
      · exact look _ M a2 a3 hX hV hS (FZ.refl _) q H
theorem chos_ok (hX : CTX L T P M) (hV : VC T P M) {h : Nat} {ha go : Int32} (hh : ha.toInt = (h : Int)) (h6 : h < 6) (hgo : inC P go) {al : Bool} (hi : inC P (zI M 137 0)) (hal : zI M 104 8 = bI al) (hwy : -1 ≤ (zI M 137 4).toInt) (H : Ev none e 66 0 [some (.ref 104), some (.ref 137), some (.int go), some (.int ha), none, none, none, none, none, none] [] M v M' 0 0) : v = some (.int (choP (T 0) P (T (h + 1)) (zI M 137 0, go, zI M 137 4, zI M 137 3, al))) ∧ SQ M' ∧ FZ noF lkW noO M M' ∧ VC T P M' := by
  have hS := hX.1.1
  obtain ⟨e1, v1, M1, rfl, H1, H⟩ := chos_0 hS H
  obtain ⟨rfl, rfl⟩ := wtow_loop hX hi 8 0 0 rfl rfl (wto_0 hS H1)
  unfold choP
  have ht := toP_rng (P := P) (here := zI M1 137 0) (goal := go) 8 0 (by decide) (by decide)
  rcases chos_12 hS H with ⟨a1, H⟩ | ⟨a1, h1, h2⟩
  · rw [if_pos (by rw [a1]; decide)]
    rw [a1] at H
    exact chos_loop hh h6 hgo 8 0 M1 (-1) 0 0 none none none hX hV hi hal hwy rfl rfl rfl (by decide) H
  · rw [if_neg (fun q => by
      have e : (0 : Int32).toInt = 0 := rfl
      rcases ht with q2 | q2
      · exact a1 q2
      · have q : toP P (zI M1 137 0) go 8 0 < 0 := q
        rw [i32_z] at q
        omega)]
    subst h2
    exact ⟨h1, hS, FZ.refl _, hV⟩
end CHO
/-! THE CLASS'S tread -/
section TRE
variable {e L : Nat} {T : TS} {g q : TQ} {P P' : PK} {M M1 M' : Mem} {v : Option Value} {c d : Int32}
theorem tr_cong (h : ∀ f, f < 7 → cE P' f c = cE P f c) (k : Cdq) : trP g P' c k = trP g P c k := by
  unfold trP
  rw [h 0 (by decide), h 1 (by decide), h 2 (by decide), h 3 (by decide), h 4 (by decide), h 5 (by decide)]
theorem ev_cong {tr tr' : Cdq → Bool} (h : ∀ k, tr' k = tr k) (cs : List Cdq) (st : List Bool) : evC tr' cs st = evC tr cs st := by
  have : tr' = tr := funext h
  rw [this]
theorem hld_cong (h : ∀ f, f < 7 → cE P' f c = cE P f c) (l : Lnq) : hldP g P' q l c = hldP g P q l c := by
  unfold hldP
  rw [ev_cong (tr_cong h)]
theorem nev_cong (h : ∀ f, f < 7 → cE P' f c = cE P f c) : ∀ ls, nevL g P' q c ls = nevL g P q c ls := by
  intro ls
  induction ls with
  | nil => rfl
  | cons l r ih =>
    unfold nevL
    rw [hld_cong h, ih]
theorem sum_cong (h : ∀ f, f < 7 → cE P' f c = cE P f c) {m : Int32} : ∀ ls s, sumL g P' q c m ls s = sumL g P q c m ls s := by
  intro ls
  induction ls with
  | nil => intro s; rfl
  | cons l r ih =>
    intro s
    unfold sumL
    rw [hld_cong h]
    exact ih _
theorem fst_cong (h : ∀ f, f < 7 → cE P' f c = cE P f c) {k d : Int32} : ∀ ls, fstL g P' k c d ls = fstL g P k c d ls := by
  intro ls
  induction ls with
  | nil => rfl
  | cons l r ih =>
    unfold fstL
    rw [hld_cong h, ih]
theorem OKv.cong {h : Nat} (hh : ∀ f, f < 7 → cE P' f c = cE P f c) (hK : OKv T P M h c) : OKv T P' M h c := by
  refine ⟨?_, fun m hm => ?_⟩
  · rw [nev_cong hh]
    exact hK.1
  · rw [sum_cong hh]
    exact hK.2 m hm
def trF (a k : Nat) : Prop := a = 104 ∧ k = 10
def trW (L a : Nat) : Prop := a = L + 4 ∨ a = L + 6 ∨ a = L + 7 ∨ a = 128
theorem tre_l (hc : inC P c) (hw : wh4 P) : ∀ (n kk : Nat) (k : Int32) (M : Mem), SQ M → k.toInt = (kk : Int) → kk + n = 6 → Ev none e 62 73 [some (.ref 104), some (.int c), some (.int k)] [] M v M' 0 0 → v = none ∧ SQ M' ∧ FZ trF (fun a => a = 128) noO M M' ∧ (∀ h, kk ≤ h → h < 6 → rN M' 128 (ixA h c) = -1) ∧ (∀ j, (∀ h, kk ≤ h → h < 6 → j ≠ ixA h c) → rN M' 128 j = rN M 128 j) ∧ zI M' 104 10 = if c = zI M 104 9 then 1 else zI M 104 10 := by
  obtain ⟨c0, _, c2⟩ := hc.lt hw
  have e6 : (6 : Int32).toInt = 6 := rfl
  have e256 : (256 : Int32).toInt = 256 := rfl
  intro n
  induction n with
  | zero =>
    intro kk k M hS hk hn H
    rcases tre_73 hS H with ⟨_, a2, h1, h2⟩ | ⟨_, a2, h1, h2⟩ | ⟨a1, _⟩
    · subst h2
      refine ⟨h1, hS.kf, FZ.wF ⟨rfl, rfl⟩, fun h h3 h4 => absurd h4 (by omega), fun j _ => rN_wF, ?_⟩
      rw [if_pos a2]
      exact fI_wF_eq hS.1 qa_104 qi_22_10
    · subst h2
      refine ⟨h1, hS, FZ.refl _, fun h h3 h4 => absurd h4 (by omega), fun j _ => rfl, ?_⟩
      rw [if_neg a2]
    · exact absurd (Int32.le_iff_toInt_le.mpr (by omega)) a1
  | succ n ih =>
    intro kk k M hS hk hn H
    rcases tre_73 hS H with ⟨a1, _⟩ | ⟨a1, _⟩ | ⟨_, _, H⟩
    · have := Int32.le_iff_toInt_le.mp a1
      omega
    · have := Int32.le_iff_toInt_le.mp a1
      omega
    · have hx : ((256 * k) + c).toNatClampNeg = ixA kk c := cl_n (ix_av hw hc hk (by omega)).1
      rw [hx] at H
      obtain ⟨r1, r2, r3, r4, r5, r6⟩ := ih (kk + 1) (k + 1) _ hS.ki (by rw [i32_p1 (by omega)]; omega) (by omega) H
      have hlt : ixA kk c < (zrw M 128).length := by
        rw [row128 hS.1]
        unfold ixA
        omega
      have hFw : FZ trF (fun a => a = 128) noO M (wI M 128 (ixA kk c) (-1)) := FZ.wI (W := fun a => a = 128) rfl
      refine ⟨r1, r2, hFw.trans r3, fun h h3 h4 => ?_, fun j hj => ?_, ?_⟩
      · by_cases hh : h = kk
        · subst hh
          rw [r5 _ (fun h5 h6 h7 q => by unfold ixA at q; omega)]
          exact rN_wI_eq hlt
        · exact r4 h (by omega) h4
      · rw [r5 j (fun h h3 h4 => hj h (by omega) h4)]
        exact rN_wI_ne (fun q => hj kk (by omega) (by omega) q.2)
      · rw [r6, fI_wI, fI_wI]
theorem ld_rw8 (hS : SH M) (hL : gNth sT L = some 8) : ∀ f, f < 8 → (zrw M (L + 1 + f)).length = 256 := by
  intro f hf
  match f, hf with
  | 0, _ => exact (hS.row (fx_h2 hL) qw_9).2
  | 1, _ => exact (hS.row (fx_h3 hL) qw_10).2
  | 2, _ => exact (hS.row (fx_h4 hL) qw_11).2
  | 3, _ => exact (hS.row (fx_h5 hL) qw_12).2
  | 4, _ => exact (hS.row (fx_h6 hL) qw_13).2
  | 5, _ => exact (hS.row (fx_h7 hL) qw_14).2
  | 6, _ => exact (hS.row (fx_h8 hL) qw_15).2
  | 7, _ => exact (hS.row (fx_h9 hL) qw_16).2
theorem ld_rw7 (hS : SH M) (hL : gNth sT L = some 8) {f : Nat} (hf : f < 7) : (zrw M (L + 1 + f)).length = 256 := ld_rw8 hS hL f (by omega)
theorem LCel.up {f : Nat} {x : Int32} (hS : SQ M) (hL : gNth sT L = some 8) (h : LCel L P M) (hw : wh4 P) (hc : inC P c) (hf : f < 7) : LCel L (uPk P (cX f c) x) (wI M (L + 1 + f) c.toNatClampNeg x) := by
  obtain ⟨_, c256, _⟩ := cls_int hw
  intro k f' hk hf'
  have e0 : uPk P (cX f c) x 0 = P 0 := up_ne (by have := cX_ge (f := f) (c := c); omega)
  have e1 : uPk P (cX f c) x 1 = P 1 := up_ne (by have := cX_ge (f := f) (c := c); omega)
  rw [cls_eq e0 e1] at hk
  have ec : c.toNatClampNeg = c.toInt.toNat := rfl
  rw [ec]
  by_cases hx : f' = f ∧ k = c.toInt.toNat
  · obtain ⟨rfl, rfl⟩ := hx
    rw [rN_wI_eq (by rw [ld_rw7 hS.1 hL hf]; have := hc.2; omega)]
    exact up_eq.symm
  · rw [rN_wI_ne (fun q => hx ⟨by omega, q.2⟩), up_ne (fun q => hx (by unfold cX at q; omega))]
    exact h k f' hk hf'
theorem tread_ok (hX : CTX L T P M) (hV : VC T P M) (hc : inC P c) (H : Ev none e 62 0 [some (.ref 104), some (.int c), none] [] M v M' 0 0) : v = none ∧ SQ M' ∧ FZ trF (trW L) noO M M' ∧ LCel L (trdP (T 0) P c) M' ∧ VC T (trdP (T 0) P c) M' ∧ zI M' 104 10 = if c = zI M 104 9 then 1 else zI M 104 10 := by
  have hS := hX.1.1
  have hL := hX.1.2.1
  have hT := hX.1.2.2.1
  have hC := hX.1.2.2.2.2.2.2
  have hw := hX.2.1
  have st : ∃ M1, SQ M1 ∧ FZ trF (trW L) noO M M1 ∧ (∀ j, rN M1 128 j = rN M 128 j) ∧ LCel L (weaP (T 0) P c) M1 ∧ (∀ k, zI M1 104 k = zI M 104 k) ∧ ∃ c2, Ev none e 62 45 [some (.ref 104), some (.int c), c2] [] M1 v M' 0 0 ∨ (M1 = M ∧ Ev none e 62 73 [some (.ref 104), some (.int c), some (.int 0)] [] (wI (wI M (fR M 104 7 + 6) c.toNatClampNeg ((rI M (fR M 104 7 + 6) c) + 1)) (fR M 104 7 + 7) c.toNatClampNeg ((rI M (fR M 104 7 + 7) c) + 1)) v M' 0 0) := by
    rcases tre_0 hS H with ⟨a1, _, _, _, _, H⟩ | ⟨a1, e1, v1, M1, rfl, H1, H⟩
    · rw [hL, g8_ok hX.1 hc, bI_0] at a1
      refine ⟨M, hS, FZ.refl _, fun _ => rfl, ?_, fun _ => rfl, none, Or.inr ⟨rfl, H⟩⟩
      unfold weaP
      rw [if_neg (by rw [a1]; decide)]
      exact hC
    · rw [hL, g8_ok hX.1 hc, bI_0, Bool.not_eq_false] at a1
      obtain ⟨rfl, rfl⟩ := fnb_ok hX hc H1
      obtain ⟨_, _, H⟩ := tre_18 hS H
      rw [hL] at H
      have r3 : rI M1 (L + 4) c = cE P 3 c := hC.at hc (f := 3) (by decide)
      refine ⟨_, hS.ki, FZ.wI (Or.inl rfl), fun j => rN_wI_ne (fun q => lk_ld hT 4 (by decide) (Or.inl q.1.symm)), ?_, fun k => fI_wI, _, Or.inl H⟩
      unfold weaP
      rw [if_pos a1, r3]
      have hx : (if ((cE P 3 c) + fstL (T 0) P 0 c 5 (T 0).2) < 999 then ((cE P 3 c) + fstL (T 0) P 0 c 5 (T 0).2) else 999) = (if 999 < cE P 3 c + fstL (T 0) P 0 c 5 (T 0).2 then 999 else cE P 3 c + fstL (T 0) P 0 c 5 (T 0).2) := by
        obtain ⟨z, ez⟩ : ∃ z, z = cE P 3 c + fstL (T 0) P 0 c 5 (T 0).2 := ⟨_, rfl⟩
        rw [← ez]
        by_cases h1 : z < 999
        · rw [if_pos h1, if_neg (fun q => by rw [Int32.lt_iff_toInt_lt] at h1 q; omega)]
        · rw [if_neg h1]
          by_cases h2 : 999 < z
          · rw [if_pos h2]
          · rw [if_neg h2]
            exact Int32.toInt_inj.mp (by rw [Int32.lt_iff_toInt_lt] at h1 h2; omega)
      rw [hx]
      exact LCel.up hS hT hC hw hc (f := 3) (by decide)
  obtain ⟨M1, s1, s2, s3, s4, s5, c2, H⟩ := st
  have hL1 : fR M1 104 7 = L := by rw [s2.fr (fun q => by have := q.2; omega)]; exact hL
  have H : Ev none e 62 73 [some (.ref 104), some (.int c), some (.int 0)] [] (wI (wI M1 (L + 6) c.toNatClampNeg ((rI M1 (L + 6) c) + 1)) (L + 7) c.toNatClampNeg ((rI M1 (L + 7) c) + 1)) v M' 0 0 := by
    rcases H with H | ⟨rfl, H⟩
    · obtain ⟨_, _, _, _, H⟩ := tre_45 s1 H
      rw [hL1] at H
      exact H
    · rw [hL] at H
      exact H
  have w0 : weaP (T 0) P c 0 = P 0 := by
    unfold weaP
    split
    · exact up_ne (by have := cX_ge (f := 3) (c := c); omega)
    · rfl
  have w1 : weaP (T 0) P c 1 = P 1 := by
    unfold weaP
    split
    · exact up_ne (by have := cX_ge (f := 3) (c := c); omega)
    · rfl
  have hwW : wh4 (weaP (T 0) P c) := hw.eq w0 w1
  have hcW : inC (weaP (T 0) P c) c := (inC.eq w0 w1).mpr hc
  have r5 : rI M1 (L + 6) c = cE (weaP (T 0) P c) 5 c := s4.at hcW (f := 5) (by decide)
  have r6 : rI M1 (L + 7) c = cE (weaP (T 0) P c) 6 c := s4.at hcW (f := 6) (by decide)
  have t5 := LCel.up (x := cE (weaP (T 0) P c) 5 c + 1) s1 hT s4 hwW hcW (f := 5) (by decide)
  have x0 : uPk (weaP (T 0) P c) (cX 5 c) (cE (weaP (T 0) P c) 5 c + 1) 0 = weaP (T 0) P c 0 := up_ne (by have := cX_ge (f := 5) (c := c); omega)
  have x1 : uPk (weaP (T 0) P c) (cX 5 c) (cE (weaP (T 0) P c) 5 c + 1) 1 = weaP (T 0) P c 1 := up_ne (by have := cX_ge (f := 5) (c := c); omega)
  have e6 : cE (uPk (weaP (T 0) P c) (cX 5 c) (cE (weaP (T 0) P c) 5 c + 1)) 6 c = cE (weaP (T 0) P c) 6 c := by
    rw [cE_up (by decide) (by decide) hc.1 hc.1, if_neg (fun q => absurd q.1 (by decide))]
  have t6 := LCel.up (x := cE (weaP (T 0) P c) 6 c + 1) s1.ki hT t5 (hwW.eq x0 x1) ((inC.eq x0 x1).mpr hcW) (f := 6) (by decide)
  have hP : trdP (T 0) P c = uPk (uPk (weaP (T 0) P c) (cX 5 c) (cE (weaP (T 0) P c) 5 c + 1)) (cX 6 c) (cE (weaP (T 0) P c) 6 c + 1) := by
    unfold trdP
    rw [e6]
  rw [← hP] at t6
  rw [r5, r6] at H
  have hF2 : FZ trF (trW L) noO M1 (wI (wI M1 (L + 6) c.toNatClampNeg (cE (weaP (T 0) P c) 5 c + 1)) (L + 7) c.toNatClampNeg (cE (weaP (T 0) P c) 6 c + 1)) := (FZ.wI (Or.inr (Or.inl rfl))).trans (FZ.wI (Or.inr (Or.inr (Or.inl rfl))))
  have n6 : (128 : Nat) ≠ L + 6 := fun q => lk_ld hT 6 (by decide) (Or.inl q.symm)
  have n7 : (128 : Nat) ≠ L + 7 := fun q => lk_ld hT 7 (by decide) (Or.inl q.symm)
  obtain ⟨r1, r2, r3, r4, r5', r6'⟩ := tre_l hc hw 6 0 0 _ s1.ki.ki rfl rfl H
  have hF3 := (s2.trans hF2).trans (r3.more (fun _ _ q => q) (fun _ q => Or.inr (Or.inr (Or.inr q))) (fun _ q => q))
  refine ⟨r1, r2, hF3, fun k f hk hf => ?_, fun h c' hh hc' => ?_, ?_⟩
  · rw [show L + 1 + f = L + (1 + f) from by omega, r3.rn (fun q => lk_ld hT (1 + f) (by omega) (Or.inl q)), ← show L + 1 + f = L + (1 + f) from by omega]
    exact t6 k f hk hf
  · have p0 : trdP (T 0) P c 0 = P 0 := trd_lo (by decide)
    have p1 : trdP (T 0) P c 1 = P 1 := trd_lo (by decide)
    have hc2 : inC P c' := (inC.eq p0 p1).mp hc'
    obtain ⟨_, c256, _⟩ := cls_int hw
    have b1 := hc.2
    have b2 := hc2.2
    by_cases hcc : c' = c
    · subst hcc
      exact Or.inl (r4 h (Nat.zero_le _) hh)
    · have hj : ∀ h2, 0 ≤ h2 → h2 < 6 → ixA h c' ≠ ixA h2 c := fun h2 _ h3 q => hcc (by
        unfold ixA at q
        refine Int32.toInt_inj.mp ?_
        have := Int.toNat_of_nonneg hc.1
        have := Int.toNat_of_nonneg hc2.1
        omega)
      have hsame : ∀ f, f < 7 → cE (trdP (T 0) P c) f c' = cE P f c' := fun f hf => by
        rw [trd_E hc.1 hc2.1 hf, if_neg (fun q => hcc q.2), if_neg (fun q => hcc q.2), wea_E hc.1 hc2.1 hf, if_neg (fun q => hcc q.2.1)]
      have hv : rN M' 128 (ixA h c') = rN M 128 (ixA h c') := by
        rw [r5' _ hj, rN_wI_ne (fun q => n7 q.1), rN_wI_ne (fun q => n6 q.1), s3]
      have hs : ∀ m, m < 7 → rN M' (130 + m) (ixA h c') = rN M (130 + m) (ixA h c') := fun m hm => by
        have n8 : ¬ trW L (130 + m) := fun q => by
          rcases q with q | q | q | q
          · exact lk_ld hT 4 (by decide) (Or.inr ⟨by omega, by omega⟩)
          · exact lk_ld hT 6 (by decide) (Or.inr ⟨by omega, by omega⟩)
          · exact lk_ld hT 7 (by decide) (Or.inr ⟨by omega, by omega⟩)
          · omega
        exact hF3.rn n8
      rcases hV h c' hh hc2 with q | q
      · exact Or.inl (hv.trans q)
      · refine Or.inr (OKv.cong hsame ⟨hv.trans q.1, fun m hm => (hs m hm).trans (q.2 m hm)⟩)
  · rw [r6', fI_wI, fI_wI, fI_wI, fI_wI, s5, s5]
end TRE
/-! THE CLASS'S land, whole; what walking changes -/
def PKs (L : Nat) (P : PK) (M : Mem) : Prop := zI M L 0 = P 0 ∧ zI M L 1 = P 1 ∧ (zI M L 11 = P 2 ∧ ∀ d, d < (P 2).toInt.toNat → rN M (L + 9) d = P (3 + d)) ∧ zI M L 13 = P 12 ∧ ∀ k, k < (P 12).toInt.toNat → ∀ f, f < 6 → zI M (L + 12 + k) f = P (13 + 6 * k + f)
def PKt (L : Nat) (P : PK) (M : Mem) : Prop := zI M L 16 = P 518 ∧ zI M L 17 = P 519 ∧ zI M L 18 = P 520 ∧ zI M L 19 = P 521
def WXr (L : Nat) (M : Mem) : Prop := ∀ k, k < 24 → oN M (L + 10) k = L + 12 + k
def WKs (L : Nat) (M : Mem) : Prop := (∀ j k, j < 60 → k < 60 → oN M (L + 11) j = oN M (L + 11) k → j = k) ∧ ∀ k, k < 60 → L + 36 ≤ oN M (L + 11) k ∧ oN M (L + 11) k < L + 96
/-- a walker as the class has it -/
def WFq (b : Nat) (P : PK) (k : Nat) (M : Mem) : Prop := zI M b 0 = P (158 + 6 * k) ∧ zI M b 1 = P (158 + 6 * k + 1) ∧ zI M b 2 = P (158 + 6 * k + 2) ∧ zI M b 3 = P (158 + 6 * k + 4) ∧ zI M b 4 = P (158 + 6 * k + 3)
def gwF (L a k : Nat) : Prop := (a = L ∧ 15 ≤ k) ∨ (L + 36 ≤ a ∧ a < L + 96) ∨ (a = 104 ∧ k = 10)
def gwW (L a : Nat) : Prop := (L + 4 ≤ a ∧ a ≤ L + 8) ∨ lkW a
def gwO (L a : Nat) : Prop := a = L + 11
/-- between the steps of a TICK: n in the list, i of them done, those that stay in s -/
def MDW (L : Nat) (P : PK) (M : Mem) (n i : Nat) (s : List Nat) : Prop := zI M L 15 = nI n ∧ n ≤ 60 ∧ i ≤ n ∧ (P 157).toInt = (s.length : Int) + ((n : Int) - (i : Int)) ∧ (∀ t j : Nat, s[t]? = some j → j < i ∧ WFq (oN M (L + 11) j) P t M) ∧ (∀ j, i ≤ j → j < n → WFq (oN M (L + 11) j) P (s.length + (j - i)) M) ∧ (∀ j, j < i → j ∉ s → zI M (oN M (L + 11) j) 0 = -1) ∧ ∀ t t' j j' : Nat, t < t' → s[t]? = some j → s[t']? = some j' → j < j'
def STA (L : Nat) (T : TS) (P : PK) (M : Mem) : Prop := CTX L T P M ∧ VC T P M ∧ PKs L P M ∧ PKt L P M ∧ WXr L M ∧ WKs L M ∧ zI M 104 8 = 0
theorem sort_ge {s : List Nat} (hs : ∀ t t' j j' : Nat, t < t' → s[t]? = some j → s[t']? = some j' → j < j') : ∀ t j : Nat, s[t]? = some j → t ≤ j := by
  intro t
  induction t with
  | zero => intro j _; exact Nat.zero_le _
  | succ t ih =>
    intro j hj
    have hl := (List.getElem?_eq_some_iff.mp hj).1
    have ht : s[t]? = some s[t] := List.getElem?_eq_getElem (by omega)
    have h1 := ih _ ht
    have h2 := hs t (t + 1) _ _ (by omega) ht hj
    omega
theorem sort_len {s : List Nat} {i : Nat} (hs : ∀ t t' j j' : Nat, t < t' → s[t]? = some j → s[t']? = some j' → j < j') (hi : ∀ t j : Nat, s[t]? = some j → j < i) : s.length ≤ i := by
  cases hl : s.length with
  | zero => exact Nat.zero_le _
  | succ m =>
    have ht : s[m]? = some s[m] := List.getElem?_eq_getElem (by omega)
    have h1 := sort_ge hs m _ ht
    have h2 := hi m _ ht
    omega
section LND
variable {e L : Nat} {T : TS} {g q : TQ} {P P' : PK} {M M1 M' : Mem} {v : Option Value} {c d : Int32} {F : Nat → Nat → Prop} {W O : Nat → Prop} {n i k b : Nat} {s : List Nat}
/-- what no walking touches -/
def okF (L : Nat) (F : Nat → Nat → Prop) (W O : Nat → Prop) : Prop := (¬ F 104 7 ∧ ¬ F 104 2) ∧ (∀ t, gNth sT t = some 28 → (∀ k, ¬ F t k) ∧ ∀ k, 1 ≤ k → k ≤ 8 → ¬ W (t + k)) ∧ (¬ O 109 ∧ ¬ O 129) ∧ ¬ W 106 ∧ ¬ W 107 ∧ ¬ W 108
theorem CTX.mv (hX : CTX L T P M) (hS : SQ M') (hF : FZ F W O M M') (ho : okF L F W O) (hl : LCel L P' M') (h0 : P' 0 = P 0) (h1 : P' 1 = P 1) (hn : ∀ c, inC P' c → nnC P' c) (hc : ∀ c, inC P' c → rI M' (L + 8) c = crdP P' c (P' 157).toInt.toNat) : CTX L T P' M' := by
  obtain ⟨⟨a1, a2, a3, a4, a5, a6, a7⟩, b1, b2, b3, b4, ⟨b5, b6⟩, b7, b8⟩ := hX
  obtain ⟨⟨f7, f2⟩, ft, ⟨o1, o2⟩, w6, w7, w8⟩ := ho
  have hlt := law_t a1.1
  have e2 : fR M' 104 2 = fR M 104 2 := hF.fr f2
  have tf := ft _ hlt
  refine ⟨⟨hS, by rw [hF.fr f7]; exact a2, a3, ?_, ?_, ?_, hl⟩, b1.eq h0 h1, hn, fun m hm => by rw [hF.on o2]; exact b3 m hm, fun c hcc => ?_, ⟨?_, b6⟩, fun h hh => ?_, hc⟩
  · rw [e2, hF.fi (tf.1 _)]; exact a4
  · rw [e2, hF.fi (tf.1 _)]; exact a5
  · rw [e2, hF.fi (tf.1 _)]; exact a6
  · have hc2 : inC P c := (inC.eq h0 h1).mp hcc
    obtain ⟨g1, g2, g3⟩ := b4 c hc2
    have r6 : ∀ j, rI M' 106 j = rI M 106 j := fun j => hF.rn w6
    have r7 : ∀ j, rI M' 107 j = rI M 107 j := fun j => hF.rn w7
    have r8 : ∀ j, rI M' 108 j = rI M 108 j := fun j => hF.rn w8
    rw [r6, r7, h0]
    exact ⟨g1, g2, fun d d0 d1 => by rw [r8, bes_eq h0 h1]; exact g3 d d0 d1⟩
  · rw [e2]
    exact b5.fz hF tf.1 tf.2
  · rw [hF.on o1]
    have tf := ft _ (hab_t a1.1 hh)
    exact ⟨(b7 h hh).1.fz hF tf.1 tf.2, (b7 h hh).2⟩
theorem okF.go (hL : gNth sT L = some 8) : okF L (gwF L) (gwW L) (gwO L) := by
  have hl := ld_cases hL
  refine ⟨⟨?_, ?_⟩, fun t ht => ⟨fun k h => ?_, fun k h1 h2 h => ?_⟩, ⟨?_, ?_⟩, ?_, ?_, ?_⟩
  · unfold gwF; omega
  · unfold gwF; omega
  · have := tx_cases ht
    unfold gwF at h
    omega
  · have := tx_cases ht
    rcases h with h | h
    · omega
    · exact lk_tx ht k h1 h2 h
  · unfold gwO; omega
  · unfold gwO; omega
  · unfold gwW lkW; omega
  · unfold gwW lkW; omega
  · unfold gwW lkW; omega
theorem VC.mv (hV : VC T P M) (h0 : P' 0 = P 0) (h1 : P' 1 = P 1) (hs : ∀ j, 522 ≤ j → P' j = P j) (hr : ∀ b j, lkW b → rN M' b j = rN M b j) : VC T P' M' := by
  intro h c hh hc
  have hc2 : inC P c := (inC.eq h0 h1).mp hc
  have hsame : ∀ f, f < 7 → cE P' f c = cE P f c := fun f _ => hs _ cX_ge
  rcases hV h c hh hc2 with q | q
  · exact Or.inl ((hr 128 _ (Or.inl rfl)).trans q)
  · exact Or.inr (OKv.cong hsame ⟨(hr 128 _ (Or.inl rfl)).trans q.1, fun m hm => (hr (130 + m) _ (Or.inr ⟨by omega, by omega⟩)).trans (q.2 m hm)⟩)
theorem PKs.mv (h : PKs L P M) (hF : FZ F W O M M') (h0 : ¬ F L 0) (h1 : ¬ F L 1) (h11 : ¬ F L 11) (h13 : ¬ F L 13) (hw : ∀ k f, k < 24 → ¬ F (L + 12 + k) f) (h9 : ¬ W (L + 9)) (hs : ∀ j, j < 157 → P' j = P j) (h9d : (P 2).toInt ≤ 9) (h24 : (P 12).toInt ≤ 24) : PKs L P' M' := by
  obtain ⟨a1, a2, ⟨a3, a4⟩, a5, a6⟩ := h
  refine ⟨by rw [hF.fi h0, hs 0 (by decide)]; exact a1, by rw [hF.fi h1, hs 1 (by decide)]; exact a2, ⟨by rw [hF.fi h11, hs 2 (by decide)]; exact a3, fun d hd => ?_⟩, by rw [hF.fi h13, hs 12 (by decide)]; exact a5, fun k hk f hf => ?_⟩
  · rw [hs 2 (by decide)] at hd
    rw [hF.rn h9, a4 d hd]
    exact (hs _ (by omega)).symm
  · rw [hs 12 (by decide)] at hk
    rw [hF.fi (hw k f (by omega)), a6 k hk f hf]
    exact (hs _ (by omega)).symm
theorem STA.mv (h : STA L T P M) (hD : okD P) (hS : SQ M') (hF : FZ (gwF L) (gwW L) (gwO L) M M') (hl : LCel L P' M') (hsb : ∀ j, j < 157 → P' j = P j) (hn : ∀ c, inC P' c → nnC P' c) (hc : ∀ c, inC P' c → rI M' (L + 8) c = crdP P' c (P' 157).toInt.toNat) (hV : VC T P' M') (ht : PKt L P' M') (hk : WKs L M') : STA L T P' M' := by
  obtain ⟨a1, a2, a3, a4, a5, a6, a7⟩ := h
  have hL := a1.1.2.2.1
  have hl' := ld_cases hL
  refine ⟨a1.mv hS hF (okF.go hL) hl (hsb 0 (by decide)) (hsb 1 (by decide)) hn hc, hV, a3.mv hF ?_ ?_ ?_ ?_ (fun k f hk => ?_) ?_ hsb hD.2.1.2.1 hD.2.2.2.1, ht, fun k hk => ?_, hk, ?_⟩
  · unfold gwF; omega
  · unfold gwF; omega
  · unfold gwF; omega
  · unfold gwF; omega
  · unfold gwF; omega
  · unfold gwW lkW; omega
  · rw [hF.on (by unfold gwO; omega)]; exact a5 k hk
  · rw [hF.fi (by unfold gwF; omega)]; exact a7
theorem gwF_obj (hk : WKs L M) (hi : i < 60) (f : Nat) : gwF L (oN M (L + 11) i) f := Or.inr (Or.inl (hk.2 i hi))
theorem lk_go (h : FZ noF lkW noO M M') : FZ (gwF L) (gwW L) (gwO L) M M' := h.more (fun _ _ q => q.elim) (fun _ q => Or.inr q) (fun _ q => q.elim)
theorem tr_go (h : FZ trF (trW L) noO M M') : FZ (gwF L) (gwW L) (gwO L) M M' := h.more (fun _ _ q => Or.inr (Or.inr q)) (fun a q => by
  rcases q with q | q | q | q
  · exact Or.inl (by omega)
  · exact Or.inl (by omega)
  · exact Or.inl (by omega)
  · exact Or.inr (Or.inl q)) (fun _ q => q.elim)
theorem WKs.fz (h : WKs L M) (hF : FZ F W O M M') (ho : ¬ O (L + 11)) : WKs L M' := by
  unfold WKs
  have e : ∀ j, oN M' (L + 11) j = oN M (L + 11) j := fun j => hF.on ho
  refine ⟨fun j k hj hk q => h.1 j k hj hk (by rw [e, e] at q; exact q), fun k hk => by rw [e]; exact h.2 k hk⟩
theorem WFq.eq (h : WFq b P k M) (hz : ∀ f, f < 5 → zI M' b f = zI M b f) (hp : ∀ j, j < 5 → P' (158 + 6 * k + j) = P (158 + 6 * k + j)) : WFq b P' k M' := by
  obtain ⟨a1, a2, a3, a4, a5⟩ := h
  refine ⟨(hz 0 (by decide)).trans (a1.trans (hp 0 (by decide)).symm), (hz 1 (by decide)).trans (a2.trans (hp 1 (by decide)).symm), (hz 2 (by decide)).trans (a3.trans (hp 2 (by decide)).symm), (hz 3 (by decide)).trans (a4.trans (hp 4 (by decide)).symm), (hz 4 (by decide)).trans (a5.trans (hp 3 (by decide)).symm)⟩
/-- nothing of the walkers changes -/
theorem MDW.same (h : MDW L P M n i s) (hk : WKs L M) (h15 : zI M' L 15 = zI M L 15) (ho : ∀ j, oN M' (L + 11) j = oN M (L + 11) j) (hz : ∀ b f, L + 36 ≤ b → b < L + 96 → zI M' b f = zI M b f) (hp : ∀ j, 157 ≤ j → j < 518 → P' j = P j) : MDW L P' M' n i s := by
  obtain ⟨a1, a2, a3, a4, a5, a6, a7, a8⟩ := h
  refine ⟨h15.trans a1, a2, a3, by rw [hp 157 (by decide) (by decide)]; exact a4, fun t j ht => ?_, fun j h1 h2 => ?_, fun j h1 h2 => ?_, a8⟩
  · obtain ⟨q1, q2⟩ := a5 t j ht
    have hb := hk.2 j (by omega)
    rw [ho]
    refine ⟨q1, q2.eq (fun f _ => hz _ f hb.1 hb.2) (fun f hf => hp _ (by omega) ?_)⟩
    have := sort_ge a8 t j ht
    omega
  · have hb := hk.2 j (by omega)
    have hs := sort_len a8 (fun t j ht => (a5 t j ht).1)
    rw [ho]
    exact (a6 j h1 h2).eq (fun f _ => hz _ f hb.1 hb.2) (fun f hf => hp _ (by omega) (by omega))
  · have hb := hk.2 j (by omega)
    rw [ho, hz _ 0 hb.1 hb.2]
    exact a7 j h1 h2
end LND
/-! ONE WALKER'S STEP, in the class -/
section STP
variable {e L : Nat} {T : TS} {g q : TQ} {P P' : PK} {M M1 M' : Mem} {v : Option Value} {c d : Int32} {n i k b B : Nat} {s : List Nat}
theorem up_comm {i j : Nat} {x y : Int32} (h : i ≠ j) : uPk (uPk P i x) j y = uPk (uPk P j y) i x := by
  funext m
  by_cases h1 : m = i
  · subst h1
    rw [up_ne h, up_eq, up_eq]
  · rw [up_ne h1]
    by_cases h2 : m = j
    · subst h2
      rw [up_eq, up_eq]
    · rw [up_ne h2, up_ne h2, up_ne h1]
theorem trd_up {i : Nat} {x : Int32} (hi : i < 522) : trdP g (uPk P i x) c = uPk (trdP g P c) i x := by
  have hE : ∀ (Q : PK) f c', cE (uPk Q i x) f c' = cE Q f c' := fun Q f c' => cE_lo hi
  have hne : ∀ f, i ≠ cX f c := fun f => by have := cX_ge (f := f) (c := c); omega
  have hg : grnB (uPk P i x) c = grnB P c := by unfold grnB; rw [hE]
  have hf : ∀ ls, fstL g (uPk P i x) 0 c 5 ls = fstL g P 0 c 5 ls := fst_cong (fun f _ => hE P f c)
  have hw : weaP g (uPk P i x) c = uPk (weaP g P c) i x := by
    unfold weaP
    rw [hg, hE, hf]
    split
    · rw [up_comm (hne 3)]
    · rfl
  unfold trdP
  rw [hw, hE, up_comm (hne 5), hE, up_comm (hne 6)]
theorem mov_age : movP (ageP P k) k d = ageP (movP P k d) k := by
  funext j
  have ea : ageP P k (158 + 6 * k) = P (158 + 6 * k) := up_ne (by omega)
  have e0 : ageP P k 0 = P 0 := up_ne (by omega)
  have e1 : ageP P k 1 = P 1 := up_ne (by omega)
  have eb : ∀ c, besP (ageP P k) c d = besP P c d := fun c => bes_eq e0 e1
  by_cases h2 : j = 158 + 6 * k + 2
  · rw [h2]
    have l : ∀ Q : PK, movP Q k d (158 + 6 * k + 2) = Q (158 + 6 * k + 2) := fun Q => by
      unfold movP
      rw [up_ne (by omega), up_ne (by omega), up_ne (by omega)]
    have r : ageP (movP P k d) k (158 + 6 * k + 2) = movP P k d (158 + 6 * k + 2) + 1 := up_eq
    rw [l, r, l]
    exact up_eq
  · have r : ageP (movP P k d) k j = movP P k d j := up_ne h2
    have hj : ageP P k j = P j := up_ne h2
    rw [r]
    unfold movP
    rw [ea, eb]
    by_cases h0 : j = 158 + 6 * k
    · rw [h0, up_eq, up_eq]
    · rw [up_ne h0, up_ne h0]
      by_cases h4 : j = 158 + 6 * k + 4
      · rw [h4, up_eq, up_eq]
      · rw [up_ne h4, up_ne h4]
        by_cases h3 : j = 158 + 6 * k + 3
        · rw [h3, up_eq, up_eq]
        · rw [up_ne h3, up_ne h3, hj]
/-- the order of a step's parts is all one -/
theorem stp_alt {p : PS} (hk : k < 60) (hd : ¬ dirP T p.1 k < 0) : stpP T p k = (ageP (trdP (T 0) (movP p.1 k (dirP T p.1 k)) (besP p.1 (p.1 (158 + 6 * k)) (dirP T p.1 k))) k, besP p.1 (p.1 (158 + 6 * k)) (dirP T p.1 k) :: p.2) := by
  have key : ∀ (D C : Int32), trdP (T 0) (ageP (movP p.1 k D) k) C = ageP (trdP (T 0) (movP p.1 k D) C) k := fun D C => by
    have h1 : movP p.1 k D (158 + 6 * k + 2) = trdP (T 0) (movP p.1 k D) C (158 + 6 * k + 2) := (trd_lo (by omega)).symm
    unfold ageP
    rw [trd_up (by omega), h1]
  unfold stpP
  rw [if_neg hd, mov_age, key]
theorem MDW.cur (h : MDW L P M n i s) (hk : WKs L M) (hin : i < n) (h15 : zI M' L 15 = zI M L 15) (ho : ∀ j, oN M' (L + 11) j = oN M (L + 11) j) (hz : ∀ b f, L + 36 ≤ b → b < L + 96 → b ≠ oN M (L + 11) i → zI M' b f = zI M b f) (hp : ∀ j, 157 ≤ j → j < 518 → ¬ (158 + 6 * s.length ≤ j ∧ j < 158 + 6 * s.length + 6) → P' j = P j) (hc : WFq (oN M (L + 11) i) P' s.length M') : MDW L P' M' n i s := by
  obtain ⟨a1, a2, a3, a4, a5, a6, a7, a8⟩ := h
  have hs := sort_len a8 (fun t j ht => (a5 t j ht).1)
  refine ⟨h15.trans a1, a2, a3, by rw [hp 157 (by decide) (by decide) (by omega)]; exact a4, fun t j ht => ?_, fun j h1 h2 => ?_, fun j h1 h2 => ?_, a8⟩
  · obtain ⟨q1, q2⟩ := a5 t j ht
    have hb := hk.2 j (by omega)
    have hne : oN M (L + 11) j ≠ oN M (L + 11) i := fun q => by have := hk.1 j i (by omega) (by omega) q; omega
    have hl := (List.getElem?_eq_some_iff.mp ht).1
    rw [ho]
    exact ⟨q1, q2.eq (fun f _ => hz _ f hb.1 hb.2 hne) (fun f hf => hp _ (by omega) (by omega) (by omega))⟩
  · have hb := hk.2 j (by omega)
    rw [ho]
    by_cases hj : j = i
    · subst hj
      rw [Nat.sub_self, Nat.add_zero]
      exact hc
    · have hne : oN M (L + 11) j ≠ oN M (L + 11) i := fun q => hj (hk.1 j i (by omega) (by omega) q)
      exact (a6 j h1 h2).eq (fun f _ => hz _ f hb.1 hb.2 hne) (fun f hf => hp _ (by omega) (by omega) (by omega))
  · have hb := hk.2 j (by omega)
    have hne : oN M (L + 11) j ≠ oN M (L + 11) i := fun q => by have := hk.1 j i (by omega) (by omega) q; omega
    rw [ho, hz _ 0 hb.1 hb.2 hne]
    exact a7 j h1 h2
theorem MDW.stay (h : MDW L P M n i s) (hin : i < n) : MDW L P M n (i + 1) (s ++ [i]) := by
  obtain ⟨a1, a2, a3, a4, a5, a6, a7, a8⟩ := h
  have hl : (s ++ [i]).length = s.length + 1 := by rw [List.length_append]; rfl
  have hget : ∀ t j : Nat, (s ++ [i])[t]? = some j → s[t]? = some j ∨ (t = s.length ∧ j = i) := fun t j ht => by
    rcases Nat.lt_trichotomy t s.length with h | h | h
    · rw [List.getElem?_append_left h] at ht
      exact Or.inl ht
    · subst h
      rw [List.getElem?_append_right (Nat.le_refl _), Nat.sub_self] at ht
      exact Or.inr ⟨rfl, (Option.some.inj ht).symm⟩
    · rw [List.getElem?_eq_none (by rw [hl]; omega)] at ht
      cases ht
  refine ⟨a1, a2, hin, by rw [hl, a4]; omega, fun t j ht => ?_, fun j h1 h2 => ?_, fun j h1 h2 => ?_, fun t t' j j' htt ht ht' => ?_⟩
  · rcases hget t j ht with q | ⟨rfl, rfl⟩
    · obtain ⟨q1, q2⟩ := a5 t j q
      exact ⟨by omega, q2⟩
    · have := a6 j (Nat.le_refl _) hin
      rw [Nat.sub_self, Nat.add_zero] at this
      exact ⟨by omega, this⟩
  · have := a6 j (by omega) h2
    rw [hl, show s.length + 1 + (j - (i + 1)) = s.length + (j - i) from by omega]
    exact this
  · refine a7 j ?_ (fun q => h2 (List.mem_append_left _ q))
    have : j ≠ i := fun q => h2 (by rw [q]; exact List.mem_append_right _ (List.mem_singleton.mpr rfl))
    omega
  · rcases hget t j ht with q | ⟨rfl, rfl⟩
    · rcases hget t' j' ht' with q' | ⟨rfl, rfl⟩
      · exact a8 t t' j j' htt q q'
      · exact (a5 t j q).1
    · rcases hget t' j' ht' with q' | ⟨rfl, rfl⟩
      · have := (List.getElem?_eq_some_iff.mp q').1
        omega
      · omega
theorem MDW.gone (h : MDW L P M n i s) (hk : WKs L M) (hin : i < n) (h15 : zI M' L 15 = zI M L 15) (ho : ∀ j, oN M' (L + 11) j = oN M (L + 11) j) (hz : ∀ b f, L + 36 ≤ b → b < L + 96 → b ≠ oN M (L + 11) i → zI M' b f = zI M b f) (hc : zI M' (oN M (L + 11) i) 0 = -1) : MDW L (leaP P s.length) M' n (i + 1) s := by
  obtain ⟨a1, a2, a3, a4, a5, a6, a7, a8⟩ := h
  have hs := sort_len a8 (fun t j ht => (a5 t j ht).1)
  have t1 : (1 : Int32).toInt = 1 := rfl
  have em : (P 157 - 1).toInt = (s.length : Int) + ((n : Int) - (i : Int)) - 1 := by
    rw [i32_sub (by omega) (by omega), a4, t1]
  have lo : ∀ t f, t < s.length → f < 6 → leaP P s.length (158 + 6 * t + f) = P (158 + 6 * t + f) := fun t f ht hf => by
    unfold leaP
    rw [if_neg (by omega), if_neg (by omega), if_neg (by omega)]
  have hi : ∀ t f, s.length ≤ t → (t : Int) < (P 157 - 1).toInt → f < 6 → leaP P s.length (158 + 6 * t + f) = P (158 + 6 * (t + 1) + f) := fun t f ht h2 hf => by
    unfold leaP
    rw [if_neg (by omega), if_pos ⟨by omega, by omega⟩]
    congr 1
    omega
  refine ⟨h15.trans a1, a2, hin, ?_, fun t j ht => ?_, fun j h1 h2 => ?_, fun j h1 h2 => ?_, a8⟩
  · have e : leaP P s.length 157 = P 157 - 1 := by
      unfold leaP
      rw [if_pos rfl]
    rw [e, em]
    omega
  · obtain ⟨q1, q2⟩ := a5 t j ht
    have hb := hk.2 j (by omega)
    have hne : oN M (L + 11) j ≠ oN M (L + 11) i := fun q => by have := hk.1 j i (by omega) (by omega) q; omega
    have hl := (List.getElem?_eq_some_iff.mp ht).1
    rw [ho]
    exact ⟨by omega, q2.eq (fun f _ => hz _ f hb.1 hb.2 hne) (fun f hf => lo t f hl (by omega))⟩
  · have hb := hk.2 j (by omega)
    have hne : oN M (L + 11) j ≠ oN M (L + 11) i := fun q => by have := hk.1 j i (by omega) (by omega) q; omega
    rw [ho]
    obtain ⟨q1, q2, q3, q4, q5⟩ := a6 j (by omega) h2
    have hx : ∀ f, f < 6 → leaP P s.length (158 + 6 * (s.length + (j - (i + 1))) + f) = P (158 + 6 * (s.length + (j - i)) + f) := fun f hf => by
      rw [hi _ f (by omega) (by rw [em]; omega) hf]
      congr 1
      omega
    refine ⟨?_, ?_, ?_, ?_, ?_⟩
    · rw [hz _ 0 hb.1 hb.2 hne, q1]; exact (hx 0 (by decide)).symm
    · rw [hz _ 1 hb.1 hb.2 hne, q2]; exact (hx 1 (by decide)).symm
    · rw [hz _ 2 hb.1 hb.2 hne, q3]; exact (hx 2 (by decide)).symm
    · rw [hz _ 3 hb.1 hb.2 hne, q4]; exact (hx 4 (by decide)).symm
    · rw [hz _ 4 hb.1 hb.2 hne, q5]; exact (hx 3 (by decide)).symm
  · rw [ho]
    by_cases hj : j = i
    · subst hj
      exact hc
    · have hb := hk.2 j (by omega)
      have hne : oN M (L + 11) j ≠ oN M (L + 11) i := fun q => hj (hk.1 j i (by omega) (by omega) q)
      rw [hz _ 0 hb.1 hb.2 hne]
      exact a7 j (by omega) h2
theorem crow_up (hS : SH M) (hL : gNth sT L = some 8) (hw : wh4 P) {h x : Int32} (hh : inC P h) (hc : inC P c) : rI (wI M (L + 8) h.toNatClampNeg x) (L + 8) c = if c = h then x else rI M (L + 8) c := by
  obtain ⟨_, c256, _⟩ := cls_int hw
  have e : ∀ z : Int32, z.toNatClampNeg = z.toInt.toNat := fun _ => rfl
  unfold rI
  rw [e, e]
  by_cases hx : c = h
  · subst hx
    rw [if_pos rfl, rN_wI_eq (by rw [ld_rw8 hS hL 7 (by decide)]; have := hc.2; omega)]
  · rw [if_neg hx, rN_wI_ne (fun q => hx (Int32.toInt_inj.mp (by have := Int.toNat_of_nonneg hh.1; have := Int.toNat_of_nonneg hc.1; omega)))]
theorem wk_t (hS : SH M) (hL : gNth sT L = some 8) {j : Nat} (hj : j < 60) : gNth sT (oN M (L + 11) j) = some 21 := ((hS.ror (fx_h14 hL) qz_19).2.2 j hj).2
theorem STA.sq (h : STA L T P M) : SQ M := h.1.1.1
theorem STA.ld (h : STA L T P M) : gNth sT L = some 8 := h.1.1.2.2.1
theorem STA.lw (h : STA L T P M) : fR M 104 7 = L := h.1.1.2.1
theorem STA.wh (h : STA L T P M) : wh4 P := h.1.2.1
theorem STA.nn (h : STA L T P M) : ∀ c, inC P c → nnC P c := h.1.2.2.1
theorem STA.cel (h : STA L T P M) : LCel L P M := h.1.1.2.2.2.2.2.2
theorem STA.crd (h : STA L T P M) : ∀ c, inC P c → rI M (L + 8) c = crdP P c (P 157).toInt.toNat := h.1.2.2.2.2.2.2.2
/-- the class's crowd rows: no cell row of the land, no row of what was seen -/
theorem LCel.fz {F : Nat → Nat → Prop} {W O : Nat → Prop} (h : LCel L P M) (hF : FZ F W O M M') (hw : ∀ f, f < 7 → ¬ W (L + 1 + f)) (h0 : P' 0 = P 0) (h1 : P' 1 = P 1) (hs : ∀ j, 522 ≤ j → P' j = P j) : LCel L P' M' := by
  intro k f hk hf
  rw [cls_eq h0 h1] at hk
  rw [hF.rn (hw f hf), h k f hk hf]
  exact (hs _ (by omega)).symm
def crO (L a : Nat) : Prop := a = L + 8
def bF (b a _k : Nat) : Prop := a = b
/-- a walker moves: its object, the crowd, P -/
theorem mov_ok (h : STA L T P M) (hD : okD P) (hK : okK P) (hm : MDW L P M n i s) (hin : i < n) (hd0 : 0 ≤ d.toInt) (hd1 : d.toInt < 8) (hto : inC P (besP P (P (158 + 6 * s.length)) d)) (H : Ev none e 74 0 [some (.ref (oN M (L + 11) i)), some (.int (besP P (P (158 + 6 * s.length)) d)), some (.int d)] [] (wI M (L + 8) (P (158 + 6 * s.length)).toNatClampNeg (crdP P (P (158 + 6 * s.length)) (P 157).toInt.toNat - 1)) v M1 0 0) : v = none ∧ SQ M1 ∧ zI M1 (oN M (L + 11) i) 0 = besP P (P (158 + 6 * s.length)) d ∧ fR M1 104 7 = L ∧ (∀ M3, M3 = wI M1 (L + 8) (besP P (P (158 + 6 * s.length)) d).toNatClampNeg (rI M1 (L + 8) (besP P (P (158 + 6 * s.length)) d) + 1) → STA L T (movP P s.length d) M3 ∧ MDW L (movP P s.length d) M3 n i s ∧ okK (movP P s.length d) ∧ FZ (gwF L) (gwW L) (gwO L) M M3 ∧ (∀ k, zI M3 104 k = zI M 104 k) ∧ ∀ j, oN M3 (L + 11) j = oN M (L + 11) j) := by
  have hS := h.sq
  have hL := h.ld
  have hw := h.wh
  have hWK := h.2.2.2.2.2.1
  obtain ⟨a1, a2, a3, a4, a5, a6, a7, a8⟩ := id hm
  have hs := sort_len a8 (fun t j ht => (a5 t j ht).1)
  have hb := hWK.2 i (by omega)
  have hbt := wk_t hS.1 hL (j := i) (by omega)
  obtain ⟨k0, k60, kk⟩ := hK
  have hks : s.length < (P 157).toInt.toNat := by omega
  obtain ⟨kh, kw1, kw2, kwy⟩ := kk s.length hks
  have hcur : WFq (oN M (L + 11) i) P s.length M := by
    have := a6 i (Nat.le_refl _) hin
    rw [Nat.sub_self] at this
    exact this
  obtain ⟨here, eh⟩ : ∃ x, x = P (158 + 6 * s.length) := ⟨_, rfl⟩
  obtain ⟨to, et⟩ : ∃ x, x = besP P (P (158 + 6 * s.length)) d := ⟨_, rfl⟩
  rw [← et] at hto H ⊢
  rw [← eh] at H kh
  obtain ⟨b, eb⟩ : ∃ b, b = oN M (L + 11) i := ⟨_, rfl⟩
  rw [← eb] at hb hbt hcur H ⊢
  obtain ⟨rfl, q2⟩ := g_74w hS.ki hbt H
  have hld := ld_cases hL
  have hSM1 : SQ M1 := by rw [q2]; exact X_74w_sx hS.ki hbt
  have z0 : zI M1 b 0 = to := by
    rw [q2]
    unfold X_74w
    rw [fI_wF_ne (fun q => absurd q.2 (by decide))]
    exact fI_wF_eq hS.ki.kf.1 hbt qi_21_0
  have z4 : zI M1 b 4 = d := by
    rw [q2]
    unfold X_74w
    exact fI_wF_eq hS.ki.kf.kf.1 hbt qi_21_4
  have z3 : zI M1 b 3 = here := by
    rw [q2]
    unfold X_74w
    rw [fI_wF_ne (fun q => absurd q.2 (by decide)), fI_wF_ne (fun q => absurd q.2 (by decide)), fI_wF_eq hS.ki.1 hbt qi_21_3, fI_wI, hcur.1, eh]
  have zo : ∀ k, k ≠ 0 → k ≠ 3 → k ≠ 4 → zI M1 b k = zI M b k := fun k k0 k3 k4 => by
    rw [q2]
    unfold X_74w
    rw [fI_wF_ne (fun q => k4 q.2), fI_wF_ne (fun q => k0 q.2), fI_wF_ne (fun q => k3 q.2), fI_wI]
  have hF1 : FZ (bF b) (crO L) noO M M1 := by
    rw [q2]
    unfold X_74w
    exact (((FZ.wI (F := bF b) (W := crO L) (O := noO) rfl).trans (FZ.wF (F := bF b) rfl)).trans (FZ.wF (F := bF b) rfl)).trans (FZ.wF (F := bF b) rfl)
  have r1 : ∀ c, inC P c → rI M1 (L + 8) c = if c = here then crdP P here (P 157).toInt.toNat - 1 else rI M (L + 8) c := fun c hc => by
    rw [← crow_up hS.1 hL hw kh hc (x := crdP P here (P 157).toInt.toNat - 1)]
    rw [q2]
    unfold X_74w
    unfold rI
    rw [rN_wF, rN_wF, rN_wF]
  refine ⟨rfl, hSM1, z0, by rw [hF1.fr (by unfold bF; omega)]; exact h.lw, fun M3 e3 => ?_⟩
  have hF3 : FZ (bF b) (crO L) noO M M3 := by
    rw [e3]
    exact hF1.trans (FZ.wI (W := crO L) rfl)
  have hSM3 : SQ M3 := by rw [e3]; exact hSM1.ki
  have hgo : FZ (gwF L) (gwW L) (gwO L) M M3 := hF3.more (fun a k q => Or.inr (Or.inl (by have : a = b := q; omega))) (fun a q => Or.inl (by have : a = L + 8 := q; omega)) (fun _ q => q.elim)
  have zz : ∀ k, zI M3 b k = zI M1 b k := fun k => by rw [e3, fI_wI]
  obtain ⟨Q, eQ⟩ : ∃ Q, Q = movP P s.length d := ⟨_, rfl⟩
  have Qh : Q (158 + 6 * s.length) = to := by
    rw [eQ, et]
    unfold movP
    exact up_eq
  have Q4 : Q (158 + 6 * s.length + 4) = here := by
    rw [eQ, eh]
    unfold movP
    rw [up_ne (by omega), up_eq]
  have Q3 : Q (158 + 6 * s.length + 3) = d := by
    rw [eQ]
    unfold movP
    rw [up_ne (by omega), up_ne (by omega), up_eq]
  have Qo : ∀ j, j ≠ 158 + 6 * s.length → j ≠ 158 + 6 * s.length + 3 → j ≠ 158 + 6 * s.length + 4 → Q j = P j := fun j j0 j3 j4 => by
    rw [eQ]
    unfold movP
    rw [up_ne j0, up_ne j4, up_ne j3]
  rw [← eQ]
  have e0 : Q 0 = P 0 := Qo 0 (by omega) (by omega) (by omega)
  have e1 : Q 1 = P 1 := Qo 1 (by omega) (by omega) (by omega)
  have hi522 : ∀ j, 522 ≤ j → Q j = P j := fun j hj => Qo j (by omega) (by omega) (by omega)
  have e157 : Q 157 = P 157 := Qo 157 (by omega) (by omega) (by omega)
  have lkn : ∀ b' j, lkW b' → rN M3 b' j = rN M b' j := fun b' j hb' => hF3.rn (fun q => by have q : b' = L + 8 := q; exact lk_ld hL 8 (by decide) (q ▸ hb'))
  refine ⟨h.mv hD hSM3 hgo (h.cel.fz hF3 (fun f hf q => by have q : L + 1 + f = L + 8 := q; omega) e0 e1 hi522) (fun j hj => Qo j (by omega) (by omega) (by omega)) (fun c hc => ?_) (fun c hc => ?_) (h.2.1.mv e0 e1 hi522 lkn) ?_ (hWK.fz hF3 (fun q => q)), hm.cur hWK hin (hF3.fi (by unfold bF; omega)) (fun j => hF3.on (fun q => q)) (fun b' f h1 h2 h3 => hF3.fi (fun q => h3 (q.trans eb))) (fun j h1 h2 h3 => Qo j (by omega) (by omega) (by omega)) ?_, ⟨by rw [e157]; exact k0, by rw [e157]; exact k60, fun t ht => ?_⟩, hgo, fun k => hF3.fi (by unfold bF; omega), fun j => hF3.on (fun q => q)⟩
  · have hc2 := (inC.eq e0 e1).mp hc
    have hsame : ∀ f, cE Q f c = cE P f c := fun f => hi522 _ cX_ge
    unfold nnC
    rw [hsame, hsame, hsame, hsame]
    exact h.nn c hc2
  · have hc2 := (inC.eq e0 e1).mp hc
    rw [e157, crd_up (P := P) (P' := Q) _ s.length hks (fun t ht hne => Qo _ (by omega) (by omega) (by omega)), Qh, ← eh, e3, crow_up hSM1.1 hL hw hto hc2, r1 to hto, r1 c hc2, h.crd to hto, h.crd c hc2]
    unfold onI
    by_cases h1 : c = to
    · rw [if_pos h1, if_pos (show to = c from h1.symm)]
      by_cases h2 : to = here
      · rw [if_pos h2, if_pos (show here = c from h2.symm.trans h1.symm), ← h2, h1]
      · rw [if_neg h2, if_neg (show ¬ here = c from fun q => h2 (h1.symm.trans q.symm)), h1]
        grind
    · rw [if_neg h1, if_neg (show ¬ to = c from fun q => h1 q.symm)]
      by_cases h2 : c = here
      · rw [if_pos h2, if_pos (show here = c from h2.symm), h2]
        grind
      · rw [if_neg h2, if_neg (show ¬ here = c from fun q => h2 q.symm)]
        grind
  · obtain ⟨t1, t2, t3, t4⟩ := h.2.2.2.1
    unfold PKt
    have f1 : ∀ k, zI M3 L k = zI M L k := fun k => hF3.fi (by unfold bF; omega)
    rw [f1, f1, f1, f1, Qo 518 (by omega) (by omega) (by omega), Qo 519 (by omega) (by omega) (by omega), Qo 520 (by omega) (by omega) (by omega), Qo 521 (by omega) (by omega) (by omega)]
    exact ⟨t1, t2, t3, t4⟩
  · obtain ⟨c1, c2, c3, c4, c5⟩ := hcur
    rw [← eb]
    refine ⟨by rw [zz, z0, Qh], by rw [zz, zo 1 (by decide) (by decide) (by decide), c2, Qo _ (by omega) (by omega) (by omega)], by rw [zz, zo 2 (by decide) (by decide) (by decide), c3, Qo _ (by omega) (by omega) (by omega)], by rw [zz, z3, Q4], by rw [zz, z4, Q3]⟩
  · rw [e157] at ht
    obtain ⟨b1, b2, b3, b4⟩ := kk t ht
    rw [inC.eq e0 e1]
    by_cases htk : t = s.length
    · subst htk
      rw [Qh, Q3, Qo _ (by omega) (by omega) (by omega), Qo 12 (by omega) (by omega) (by omega)]
      exact ⟨hto, b2, b3, by omega⟩
    · rw [Qo _ (by omega) (by omega) (by omega), Qo _ (by omega) (by omega) (by omega), Qo 12 (by omega) (by omega) (by omega), Qo _ (by omega) (by omega) (by omega)]
      exact ⟨b1, b2, b3, b4⟩
end STP
/-! THE CLASS'S begin: those due in a TICK -/
section BEG
variable {e L : Nat} {T : TS} {P P' : PK} {M M1 M' : Mem} {v : Option Value} {c d : Int32} {n i k b B : Nat}
theorem due_ok (h : PKs L P M) (hx : WXr L M) (hD : okD P) (hk : k < (P 12).toInt.toNat) (ht : zI M L 16 = P 518) {kz : Int32} (hkz : kz.toInt = (k : Int)) : G_78 M (oI M (L + 10) kz) (zI M L 16) = bI (dueB P k) := by
  have h24 := hD.2.2.2.1
  have ho : oI M (L + 10) kz = L + 12 + k := by
    unfold oI
    rw [cl_n hkz]
    exact hx k (by omega)
  obtain ⟨_, _, _, hev, _⟩ := hD.2.2.2.2 k hk
  have f := fun f hf => h.2.2.2.2 k hk f hf
  have z0 : (0 : Int32).toInt = 0 := rfl
  unfold G_78 dueB remI
  rw [ho, ht, f 3 (by decide), f 4 (by decide), f 5 (by decide)]
  by_cases h5 : P (13 + 6 * k + 5) = 0
  · rw [if_pos h5, decide_eq_true h5]; rfl
  · rw [if_neg h5, decide_eq_false h5, if_neg (fun q => by have := Int32.le_iff_toInt_le.mp q; omega)]
    by_cases h4 : P 518 < P (13 + 6 * k + 4)
    · rw [if_pos h4, decide_eq_true h4]; rfl
    · rw [if_neg h4, decide_eq_false h4]
      by_cases hr : P 518 - P (13 + 6 * k + 4) - (P 518 - P (13 + 6 * k + 4)) / P (13 + 6 * k + 3) * P (13 + 6 * k + 3) = 0
      · rw [if_pos hr, decide_eq_true hr]; rfl
      · rw [if_neg hr, decide_eq_false hr]; rfl
def LST (L : Nat) (P : PK) (M : Mem) : Prop := zI M L 15 = P 157 ∧ ∀ k, k < (P 157).toInt.toNat → WFq (oN M (L + 11) k) P k M
theorem wi_t (hS : SH M) (hL : gNth sT L = some 8) (hx : WXr L M) (hk : k < 24) : gNth sT (L + 12 + k) = some 20 := by
  have h := ((hS.ror (fx_h12 hL) qz_18).2.2 k hk).2
  rw [hx k hk] at h
  exact h
/-- one more -/
theorem nwk_ok (h : STA L T P M) (hD : okD P) (hK : okK P) (hl : LST L P M) (hk : k < (P 12).toInt.toNat) (hm : ¬ P 157 = 60) {M1 M3 : Mem} (h1 : M1 = X_73w M (oN M (L + 11) (P 157).toInt.toNat) (P (3 + (P (13 + 6 * k)).toInt.toNat)) (nI k)) (h3 : M3 = wI (wF M1 L 15 (zI M1 L 15 + 1)) (L + 8) (P (3 + (P (13 + 6 * k)).toInt.toNat)).toNatClampNeg (rI M1 (L + 8) (P (3 + (P (13 + 6 * k)).toInt.toNat)) + 1)) : STA L T (newP P k) M3 ∧ okK (newP P k) ∧ LST L (newP P k) M3 ∧ FZ (gwF L) (gwW L) (gwO L) M M3 ∧ (∀ k, zI M3 104 k = zI M 104 k) ∧ fR M1 104 7 = L ∧ SQ M1 := by
  have hS := h.sq
  have hL := h.ld
  have hw := h.wh
  have hWK := h.2.2.2.2.2.1
  have hld := ld_cases hL
  obtain ⟨k0, k60, kk⟩ := hK
  have t60 : (60 : Int32).toInt = 60 := rfl
  have m59 : (P 157).toInt ≤ 59 := by
    have : (P 157).toInt ≠ 60 := fun q => hm (Int32.toInt_inj.mp (q.trans t60.symm))
    omega
  obtain ⟨m, em⟩ : ∃ m, m = (P 157).toInt.toNat := ⟨_, rfl⟩
  have emi : (P 157).toInt = (m : Int) := by omega
  obtain ⟨hfr, _, _, _, _⟩ := hD.2.2.2.2 k hk
  obtain ⟨to, et⟩ : ∃ x, x = P (3 + (P (13 + 6 * k)).toInt.toNat) := ⟨_, rfl⟩
  have hto : inC P to := by rw [et]; exact hD.2.1.2.2 _ (by omega)
  rw [← em, ← et] at h1
  rw [← et] at h3
  have hb := hWK.2 m (by omega)
  have hbt := wk_t hS.1 hL (j := m) (by omega)
  obtain ⟨b, eb⟩ : ∃ b, b = oN M (L + 11) m := ⟨_, rfl⟩
  rw [← eb] at hb hbt h1
  have hF1 : FZ (bF b) noO noO M M1 := by
    rw [h1]
    unfold X_73w
    exact ((((FZ.wF (F := bF b) rfl).trans (FZ.wF (F := bF b) rfl)).trans (FZ.wF (F := bF b) rfl)).trans (FZ.wF (F := bF b) rfl)).trans (FZ.wF (F := bF b) rfl)
  have hS1 : SQ M1 := by rw [h1]; exact X_73w_sx hS hbt
  have z1L : ∀ k, zI M1 L k = zI M L k := fun k => hF1.fi (by unfold bF; omega)
  have r1 : rI M1 (L + 8) to = crdP P to m := by
    have : rI M1 (L + 8) to = rI M (L + 8) to := hF1.rn (fun q => q)
    rw [this, em]
    exact h.crd to hto
  have b0 : zI M1 b 0 = to := by
    rw [h1]
    unfold X_73w
    rw [fI_wF_ne (fun q => absurd q.2 (by decide)), fI_wF_ne (fun q => absurd q.2 (by decide)), fI_wF_ne (fun q => absurd q.2 (by decide)), fI_wF_ne (fun q => absurd q.2 (by decide))]
    exact fI_wF_eq hS.1 hbt qi_21_0
  have b1 : zI M1 b 1 = nI k := by
    rw [h1]
    unfold X_73w
    rw [fI_wF_ne (fun q => absurd q.2 (by decide)), fI_wF_ne (fun q => absurd q.2 (by decide)), fI_wF_ne (fun q => absurd q.2 (by decide))]
    exact fI_wF_eq hS.kf.1 hbt qi_21_1
  have b2 : zI M1 b 2 = 0 := by
    rw [h1]
    unfold X_73w
    rw [fI_wF_ne (fun q => absurd q.2 (by decide)), fI_wF_ne (fun q => absurd q.2 (by decide))]
    exact fI_wF_eq hS.kf.kf.1 hbt qi_21_2
  have b3 : zI M1 b 3 = -1 := by
    rw [h1]
    unfold X_73w
    rw [fI_wF_ne (fun q => absurd q.2 (by decide))]
    exact fI_wF_eq hS.kf.kf.kf.1 hbt qi_21_3
  have b4 : zI M1 b 4 = -1 := by
    rw [h1]
    unfold X_73w
    exact fI_wF_eq hS.kf.kf.kf.kf.1 hbt qi_21_4
  have hF3 : FZ (fun a k => bF b a k ∨ (a = L ∧ k = 15)) (crO L) noO M M3 := by
    rw [h3]
    exact ((hF1.more (fun _ _ q => Or.inl q) (fun _ q => q.elim) (fun _ q => q)).trans (FZ.wF (Or.inr ⟨rfl, rfl⟩))).trans (FZ.wI rfl)
  have hS3 : SQ M3 := by rw [h3]; exact hS1.kf.ki
  have hgo : FZ (gwF L) (gwW L) (gwO L) M M3 := hF3.more (fun a k q => by
    rcases q with q | q
    · exact Or.inr (Or.inl (by have : a = b := q; omega))
    · exact Or.inl ⟨q.1, by omega⟩) (fun a q => Or.inl (by have : a = L + 8 := q; omega)) (fun _ q => q.elim)
  have zb : ∀ k, zI M3 b k = zI M1 b k := fun k => by rw [h3, fI_wI, fI_wF_ne (fun q => by have := q.1; omega)]
  obtain ⟨Q, eQ⟩ : ∃ Q, Q = newP P k := ⟨_, rfl⟩
  rw [← eQ]
  unfold newP at eQ
  rw [← em, ← et] at eQ
  have q157 : Q 157 = P 157 + 1 := by rw [eQ]; exact up_eq
  have q157i : (Q 157).toInt = (m : Int) + 1 := by
    rw [q157, i32_p1 (by omega)]
    omega
  have Qo : ∀ j, j ≠ 157 → (j < 158 + 6 * m ∨ 158 + 6 * m + 5 ≤ j) → Q j = P j := fun j j1 j2 => by
    rw [eQ, up_ne j1, up_ne (by omega), up_ne (by omega), up_ne (by omega), up_ne (by omega), up_ne (by omega)]
  have Q0 : Q (158 + 6 * m) = to := by
    rw [eQ, up_ne (by omega), up_ne (by omega), up_ne (by omega), up_ne (by omega), up_ne (by omega), up_eq]
  have Q1 : Q (158 + 6 * m + 1) = nI k := by
    rw [eQ, up_ne (by omega), up_ne (by omega), up_ne (by omega), up_ne (by omega), up_eq]
  have Q2 : Q (158 + 6 * m + 2) = 0 := by
    rw [eQ, up_ne (by omega), up_ne (by omega), up_ne (by omega), up_eq]
  have Q3 : Q (158 + 6 * m + 3) = -1 := by
    rw [eQ, up_ne (by omega), up_ne (by omega), up_eq]
  have Q4 : Q (158 + 6 * m + 4) = -1 := by
    rw [eQ, up_ne (by omega), up_eq]
  have e0 : Q 0 = P 0 := Qo 0 (by omega) (by omega)
  have e1 : Q 1 = P 1 := Qo 1 (by omega) (by omega)
  have hi522 : ∀ j, 522 ≤ j → Q j = P j := fun j hj => Qo j (by omega) (by omega)
  have lkn : ∀ b' j, lkW b' → rN M3 b' j = rN M b' j := fun b' j hb' => hF3.rn (fun q => by have q : b' = L + 8 := q; exact lk_ld hL 8 (by decide) (q ▸ hb'))
  have oo : ∀ j, oN M3 (L + 11) j = oN M (L + 11) j := fun j => hF3.on (fun q => q)
  have hkI : (nI k).toInt = (k : Int) := nI_toInt (by have := hD.2.2.2.1; omega)
  refine ⟨h.mv hD hS3 hgo (h.cel.fz hF3 (fun f hf q => by have q : L + 1 + f = L + 8 := q; omega) e0 e1 hi522) (fun j hj => Qo j (by omega) (by omega)) (fun c hc => ?_) (fun c hc => ?_) (h.2.1.mv e0 e1 hi522 lkn) ?_ (hWK.fz hF3 (fun q => q)), ⟨by omega, by omega, fun t ht => ?_⟩, ⟨?_, fun t ht => ?_⟩, hgo, fun k => hF3.fi (by unfold bF; omega), ?_, hS1⟩
  · have hc2 := (inC.eq e0 e1).mp hc
    have hsame : ∀ f, cE Q f c = cE P f c := fun f => hi522 _ cX_ge
    unfold nnC
    rw [hsame, hsame, hsame, hsame]
    exact h.nn c hc2
  · have hc2 := (inC.eq e0 e1).mp hc
    have hq : (Q 157).toInt.toNat = m + 1 := by omega
    have hr : rI (wF M1 L 15 (zI M1 L 15 + 1)) (L + 8) c = rI M (L + 8) c := by
      have a1 : rI (wF M1 L 15 (zI M1 L 15 + 1)) (L + 8) c = rI M1 (L + 8) c := by unfold rI; rw [rN_wF]
      have a2 : rI M1 (L + 8) c = rI M (L + 8) c := hF1.rn (fun q => q)
      rw [a1, a2]
    rw [hq, h3, crow_up hS1.kf.1 hL hw hto hc2, hr, r1, h.crd c hc2, ← em]
    show _ = crdP Q c m + (if Q (158 + 6 * m) = c then 1 else 0)
    rw [crd_congr m (fun t ht => Qo _ (by omega) (by omega)), Q0]
    by_cases hcc : c = to
    · rw [if_pos hcc, if_pos hcc.symm, hcc]
    · rw [if_neg hcc, if_neg (fun q => hcc q.symm)]
      grind
  · obtain ⟨t1, t2, t3, t4⟩ := h.2.2.2.1
    unfold PKt
    have f1 : ∀ k, k ≠ 15 → zI M3 L k = zI M L k := fun k hk => hF3.fi (fun q => by
      rcases q with q | q
      · have q : L = b := q
        omega
      · exact hk q.2)
    rw [f1 16 (by decide), f1 17 (by decide), f1 18 (by decide), f1 19 (by decide), Qo 518 (by omega) (by omega), Qo 519 (by omega) (by omega), Qo 520 (by omega) (by omega), Qo 521 (by omega) (by omega)]
    exact ⟨t1, t2, t3, t4⟩
  · rw [inC.eq e0 e1]
    by_cases htm : t = m
    · subst htm
      rw [Q0, Q1, Q3, Qo 12 (by omega) (by omega), hkI]
      exact ⟨hto, by omega, by omega, by decide⟩
    · obtain ⟨c1, c2, c3, c4⟩ := kk t (by omega)
      rw [Qo _ (by omega) (by omega), Qo _ (by omega) (by omega), Qo 12 (by omega) (by omega), Qo _ (by omega) (by omega)]
      exact ⟨c1, c2, c3, c4⟩
  · rw [q157, h3, fI_wI]
    rw [fI_wF_eq hS1.1 hL qi_8_15, z1L, hl.1]
  · rw [oo]
    by_cases htm : t = m
    · subst htm
      rw [← eb]
      exact ⟨by rw [zb, b0, Q0], by rw [zb, b1, Q1], by rw [zb, b2, Q2], by rw [zb, b3, Q4], by rw [zb, b4, Q3]⟩
    · have hb2 := hWK.2 t (by omega)
      have hne : oN M (L + 11) t ≠ b := fun q => htm (hWK.1 t m (by omega) (by omega) (q.trans eb))
      refine (hl.2 t (by omega)).eq (fun f _ => hF3.fi (fun q => ?_)) (fun j hj => Qo _ (by omega) (by omega))
      rcases q with q | q
      · exact hne q
      · omega
  · rw [hF1.fr (by unfold bF; omega)]
    exact h.lw
theorem tur_ok (h : STA L T P M) (hD : okD P) (hK : okK P) (hl : LST L P M) {M3 : Mem} (h3 : M3 = wF M L 19 (zI M L 19 + 1)) : STA L T (uPk P 521 (P 521 + 1)) M3 ∧ okK (uPk P 521 (P 521 + 1)) ∧ LST L (uPk P 521 (P 521 + 1)) M3 ∧ FZ (gwF L) (gwW L) (gwO L) M M3 ∧ ∀ k, zI M3 104 k = zI M 104 k := by
  have hS := h.sq
  have hL := h.ld
  have hWK := h.2.2.2.2.2.1
  have hld := ld_cases hL
  have hF3 : FZ (fun a k => a = L ∧ k = 19) noO noO M M3 := by rw [h3]; exact FZ.wF ⟨rfl, rfl⟩
  have hS3 : SQ M3 := by rw [h3]; exact hS.kf
  have hgo : FZ (gwF L) (gwW L) (gwO L) M M3 := hF3.more (fun a k q => Or.inl ⟨q.1, by omega⟩) (fun a q => q.elim) (fun _ q => q.elim)
  have Qo : ∀ j, j ≠ 521 → uPk P 521 (P 521 + 1) j = P j := fun j hj => up_ne hj
  have lkn : ∀ b' j, lkW b' → rN M3 b' j = rN M b' j := fun b' j _ => hF3.rn (fun q => q)
  obtain ⟨t1, t2, t3, t4⟩ := h.2.2.2.1
  have f1 : ∀ k, k ≠ 19 → zI M3 L k = zI M L k := fun k hk => hF3.fi (fun q => hk q.2)
  refine ⟨h.mv hD hS3 hgo (h.cel.fz hF3 (fun f hf q => q) (Qo 0 (by decide)) (Qo 1 (by decide)) (fun j hj => Qo j (by omega))) (fun j hj => Qo j (by omega)) (fun c hc => ?_) (fun c hc => ?_) (h.2.1.mv (Qo 0 (by decide)) (Qo 1 (by decide)) (fun j hj => Qo j (by omega)) lkn) ⟨?_, ?_, ?_, ?_⟩ (hWK.fz hF3 (fun q => q)), ⟨?_, ?_, fun t ht => ?_⟩, ⟨?_, fun t ht => ?_⟩, hgo, fun k => hF3.fi (by omega)⟩
  · have hc2 := (inC.eq (Qo 0 (by decide)) (Qo 1 (by decide))).mp hc
    have hsame : ∀ f, cE (uPk P 521 (P 521 + 1)) f c = cE P f c := fun f => cE_lo (by decide)
    unfold nnC
    rw [hsame, hsame, hsame, hsame]
    exact h.nn c hc2
  · have hc2 := (inC.eq (Qo 0 (by decide)) (Qo 1 (by decide))).mp hc
    have hr : rI M3 (L + 8) c = rI M (L + 8) c := hF3.rn (fun q => q)
    have hK2 := hK.2.1
    rw [hr, h.crd c hc2, Qo 157 (by decide)]
    exact (crd_congr _ (fun t ht => Qo _ (by omega))).symm
  · rw [f1 16 (by decide), t1]; exact (Qo _ (by decide)).symm
  · rw [f1 17 (by decide), t2]; exact (Qo _ (by decide)).symm
  · rw [f1 18 (by decide), t3]; exact (Qo _ (by decide)).symm
  · rw [h3, fI_wF_eq hS.1 hL qi_8_19, t4]; exact up_eq.symm
  · rw [Qo 157 (by decide)]; exact hK.1
  · rw [Qo 157 (by decide)]; exact hK.2.1
  · rw [Qo 157 (by decide)] at ht
    have hK2 := hK.2.1
    obtain ⟨c1, c2, c3, c4⟩ := hK.2.2 t ht
    rw [inC.eq (Qo 0 (by decide)) (Qo 1 (by decide)), Qo _ (by omega), Qo _ (by omega), Qo 12 (by decide), Qo _ (by omega)]
    exact ⟨c1, c2, c3, c4⟩
  · rw [f1 15 (by decide), hl.1]; exact (Qo _ (by decide)).symm
  · rw [Qo 157 (by decide)] at ht
    have hK2 := hK.2.1
    rw [hF3.on (fun q => q)]
    have hb := hWK.2 t (by omega)
    exact (hl.2 t ht).eq (fun f _ => hF3.fi (by omega)) (fun j hj => Qo _ (by omega))
theorem new_sb (hk : k < 24) (hm : (P 157).toInt ≤ 60) : ∀ j, j < 157 → newP P k j = P j := fun j hj => by
  unfold newP
  rw [up_ne (by omega), up_ne (by omega), up_ne (by omega), up_ne (by omega), up_ne (by omega), up_ne (by omega)]
theorem beg_l : ∀ (n k : Nat) (kz : Int32) (c2 c3 : Option Value) (P : PK) (M : Mem), STA L T P M → okD P → okK P → LST L P M → kz.toInt = (k : Int) → (k : Int) + (n : Int) = (P 12).toInt → Ev none e 59 2 [some (.ref 104), some (.int kz), c2, c3] [] M v M' 0 0 → v = none ∧ STA L T (begP n k P) M' ∧ okK (begP n k P) ∧ LST L (begP n k P) M' ∧ FZ (gwF L) (gwW L) (gwO L) M M' ∧ ∀ k, zI M' 104 k = zI M 104 k := by
  intro n
  induction n with
  | zero =>
    intro k kz c2 c3 P M h hD hK hl hkz hn H
    have h13 := h.2.2.1.2.2.2.1
    rcases bgn_2 h.sq H with ⟨_, h1, h2⟩ | ⟨a1, _⟩ | ⟨a1, _⟩ | ⟨a1, _⟩
    · subst h2
      exact ⟨h1, h, hK, hl, FZ.refl _, fun _ => rfl⟩
    all_goals exact absurd (Int32.le_iff_toInt_le.mpr (by rw [h.lw, h13]; omega)) a1
  | succ n ih =>
    intro k kz c2 c3 P M h hD hK hl hkz hn H
    have h13 := h.2.2.1.2.2.2.1
    have h24 := hD.2.2.2.1
    have hk : k < (P 12).toInt.toNat := by omega
    have hdu := due_ok h.2.2.1 h.2.2.2.2.1 hD hk h.2.2.2.1.1 hkz
    have hk1 : (kz + 1).toInt = ((k + 1 : Nat) : Int) := by
      rw [i32_p1 (by omega)]
      omega
    have hx : oI M (L + 10) kz = L + 12 + k := by
      unfold oI
      rw [cl_n hkz]
      exact h.2.2.2.2.1 k (by omega)
    have hkI : kz = nI k := Int32.toInt_inj.mp (by rw [hkz, nI_toInt (by omega)])
    have t60 : (60 : Int32).toInt = 60 := rfl
    unfold begP
    rcases bgn_2 h.sq H with ⟨a1, _⟩ | ⟨_, a2, _, H⟩ | ⟨_, a2, a3, _, _, _, e1, v1, M1, rfl, H1, H⟩ | ⟨_, a2, a3, _, H⟩
    · rw [h.lw, h13] at a1
      have := Int32.le_iff_toInt_le.mp a1
      omega
    · rw [h.lw, hdu, bI_0] at a2
      rw [if_neg (by rw [a2]; decide)]
      exact ih (k + 1) _ _ _ P M h hD hK hl hk1 (by omega) H
    · rw [h.lw, hdu, bI_0, Bool.not_eq_false] at a2
      rw [h.lw, hl.1] at a3
      have hne : ¬ P 157 = 60 := fun q => by rw [q] at a3; exact absurd a3 (by decide)
      rw [if_pos a2, if_neg hne]
      have hfr := (hD.2.2.2.2 k hk).1
      have hw0 : zI M (L + 12 + k) 0 = P (13 + 6 * k) := h.2.2.1.2.2.2.2 k hk 0 (by decide)
      have hdo : rI M (L + 9) (P (13 + 6 * k)) = P (3 + (P (13 + 6 * k)).toInt.toNat) := h.2.2.1.2.2.1.2 (P (13 + 6 * k)).toInt.toNat (by omega)
      have hob : oI M (L + 11) (P 157) = oN M (L + 11) (P 157).toInt.toNat := rfl
      have hbt := wk_t h.sq.1 h.ld (j := (P 157).toInt.toNat) (by have := hK.2.1; have : (P 157).toInt ≠ 60 := fun q => hne (Int32.toInt_inj.mp (q.trans t60.symm)); omega)
      rw [h.lw, hx, hl.1, hw0, hdo, hob, hkI] at H1
      obtain ⟨rfl, q2⟩ := g_73w h.sq hbt H1
      obtain ⟨r1, r2, r3, r4, r5, r6, r7⟩ := nwk_ok h hD hK hl hk hne q2 rfl
      rw [h.lw, hx, hw0, hdo] at H
      obtain ⟨_, _, H⟩ := bgn_101 r7 (wi_t h.sq.1 h.ld h.2.2.2.2.1 (k := k) (by omega)) H
      rw [r6] at H
      obtain ⟨s1, s2, s3, s4, s5, s6⟩ := ih (k + 1) _ _ _ (newP P k) _ r1 (hD.sb (new_sb (by omega) hK.2.1)) r2 r3 hk1 (by rw [new_sb (by omega) hK.2.1 12 (by decide)]; omega) H
      exact ⟨s1, s2, s3, s4, r4.trans s5, fun k => (s6 k).trans (r5 k)⟩
    · rw [h.lw, hdu, bI_0, Bool.not_eq_false] at a2
      rw [h.lw, hl.1] at a3
      have hq : P 157 = 60 := Int32.toInt_inj.mp (by rw [Int32.lt_iff_toInt_lt] at a3; have := hK.2.1; omega)
      rw [if_pos a2, if_pos hq]
      rw [h.lw] at H
      obtain ⟨r1, r2, r3, r4, r5⟩ := tur_ok h hD hK hl rfl
      obtain ⟨s1, s2, s3, s4, s5, s6⟩ := ih (k + 1) _ _ _ _ _ r1 (hD.sb (fun j hj => up_ne (by omega))) r2 r3 hk1 (by rw [show uPk P 521 (P 521 + 1) 12 = P 12 from up_ne (by decide)]; omega) H
      exact ⟨s1, s2, s3, s4, r4.trans s5, fun k => (s6 k).trans (r5 k)⟩
end BEG
/-! ONE WALKER'S STEP, in the class: what follows the move -/
section LVE
variable {e L : Nat} {T : TS} {g q : TQ} {P P' Q : PK} {M M1 M' : Mem} {v : Option Value} {c d go : Int32} {n i k b B : Nat} {s : List Nat} {ss : List Int32}
theorem STA.lk (h : STA L T P M) (hD : okD P) (hS : SQ M') (hF : FZ noF lkW noO M M') (hV : VC T P M') : STA L T P M' := by
  have hL := h.ld
  have hld := ld_cases hL
  obtain ⟨t1, t2, t3, t4⟩ := h.2.2.2.1
  refine h.mv hD hS (lk_go hF) (h.cel.fz hF (fun f hf q => ?_) rfl rfl (fun _ _ => rfl)) (fun _ _ => rfl) h.nn (fun c hc => ?_) hV ⟨?_, ?_, ?_, ?_⟩ (h.2.2.2.2.2.1.fz hF (fun q => q))
  · exact lk_ld hL (1 + f) (by omega) (by rw [← Nat.add_assoc]; exact q)
  · have : rI M' (L + 8) c = rI M (L + 8) c := hF.rn (lk_ld hL 8 (by decide))
    rw [this]
    exact h.crd c hc
  · rw [hF.fi (fun q => q)]; exact t1
  · rw [hF.fi (fun q => q)]; exact t2
  · rw [hF.fi (fun q => q)]; exact t3
  · rw [hF.fi (fun q => q)]; exact t4
theorem MDW.lk (h : MDW L P M n i s) (hk : WKs L M) (hF : FZ noF lkW noO M M') : MDW L P M' n i s := h.same hk (hF.fi (fun q => q)) (fun j => hF.on (fun q => q)) (fun b f _ _ => hF.fi (fun q => q)) (fun _ _ _ => rfl)
/-- a TICK more -/
theorem age_ok (h : STA L T P M) (hD : okD P) (hK : okK P) (hm : MDW L P M n i s) (hin : i < n) (h2 : M' = wF M (oN M (L + 11) i) 2 (zI M (oN M (L + 11) i) 2 + 1)) : STA L T (ageP P s.length) M' ∧ MDW L (ageP P s.length) M' n i s ∧ okK (ageP P s.length) ∧ FZ (gwF L) (gwW L) (gwO L) M M' ∧ (∀ k, zI M' 104 k = zI M 104 k) ∧ ∀ j, oN M' (L + 11) j = oN M (L + 11) j := by
  have hS := h.sq
  have hL := h.ld
  have hWK := h.2.2.2.2.2.1
  have hld := ld_cases hL
  obtain ⟨a1, a2, a3, a4, a5, a6, a7, a8⟩ := id hm
  have hs := sort_len a8 (fun t j ht => (a5 t j ht).1)
  have hb := hWK.2 i (by omega)
  have hbt := wk_t hS.1 hL (j := i) (by omega)
  have hcur : WFq (oN M (L + 11) i) P s.length M := by
    have := a6 i (Nat.le_refl _) hin
    rw [Nat.sub_self] at this
    exact this
  obtain ⟨k0, k60, kk⟩ := hK
  obtain ⟨b, eb⟩ : ∃ b, b = oN M (L + 11) i := ⟨_, rfl⟩
  rw [← eb] at hb hbt hcur h2
  have hF : FZ (fun a k => a = b ∧ k = 2) noO noO M M' := by rw [h2]; exact FZ.wF (F := fun a k => a = b ∧ k = 2) ⟨rfl, rfl⟩
  have hS2 : SQ M' := by rw [h2]; exact hS.kf
  have hgo : FZ (gwF L) (gwW L) (gwO L) M M' := hF.more (fun a k q => Or.inr (Or.inl (by have := q.1; omega))) (fun a q => q.elim) (fun _ q => q.elim)
  have Qo : ∀ j, j ≠ 158 + 6 * s.length + 2 → ageP P s.length j = P j := fun j hj => up_ne hj
  have Q2 : ageP P s.length (158 + 6 * s.length + 2) = P (158 + 6 * s.length + 2) + 1 := up_eq
  have h522 : ∀ j, 522 ≤ j → ageP P s.length j = P j := fun j hj => Qo j (by omega)
  have e0 := Qo 0 (by omega)
  have e1 := Qo 1 (by omega)
  obtain ⟨t1, t2, t3, t4⟩ := h.2.2.2.1
  have fL' : ∀ k, zI M' L k = zI M L k := fun k => hF.fi (by omega)
  refine ⟨h.mv hD hS2 hgo (h.cel.fz hF (fun f hf q => q) e0 e1 h522) (fun j hj => Qo j (by omega)) (fun c hc => ?_) (fun c hc => ?_) (h.2.1.mv e0 e1 h522 (fun b' j _ => hF.rn (fun q => q))) ?_ (hWK.fz hF (fun q => q)), hm.cur hWK hin (fL' 15) (fun j => hF.on (fun q => q)) (fun b' f h1 h2 h3 => hF.fi (fun q => h3 (q.1.trans eb))) (fun j h1 h2 h3 => Qo j (by omega)) ?_, ⟨by rw [Qo 157 (by omega)]; exact k0, by rw [Qo 157 (by omega)]; exact k60, fun t ht => ?_⟩, hgo, fun k => hF.fi (by omega), fun j => hF.on (fun q => q)⟩
  · have hc2 := (inC.eq e0 e1).mp hc
    have hsame : ∀ f, cE (ageP P s.length) f c = cE P f c := fun f => h522 _ cX_ge
    unfold nnC
    rw [hsame, hsame, hsame, hsame]
    exact h.nn c hc2
  · have hc2 := (inC.eq e0 e1).mp hc
    have : rI M' (L + 8) c = rI M (L + 8) c := hF.rn (fun q => q)
    rw [this, Qo 157 (by omega), h.crd c hc2]
    exact (crd_congr _ (fun t ht => Qo _ (by omega))).symm
  · unfold PKt
    rw [fL', fL', fL', fL', Qo 518 (by omega), Qo 519 (by omega), Qo 520 (by omega), Qo 521 (by omega)]
    exact ⟨t1, t2, t3, t4⟩
  · obtain ⟨c1, c2, c3, c4, c5⟩ := hcur
    rw [← eb]
    have zo : ∀ k, k ≠ 2 → zI M' b k = zI M b k := fun k hk => hF.fi (fun q => hk q.2)
    have z2 : zI M' b 2 = zI M b 2 + 1 := by rw [h2]; exact fI_wF_eq hS.1 hbt qi_21_2
    exact ⟨by rw [zo 0 (by decide), c1, Qo _ (by omega)], by rw [zo 1 (by decide), c2, Qo _ (by omega)], by rw [z2, c3, Q2], by rw [zo 3 (by decide), c4, Qo _ (by omega)], by rw [zo 4 (by decide), c5, Qo _ (by omega)]⟩
  · rw [Qo 157 (by omega)] at ht
    obtain ⟨b1, b2, b3, b4⟩ := kk t ht
    rw [inC.eq e0 e1, Qo _ (by omega), Qo _ (by omega), Qo 12 (by omega), Qo _ (by omega)]
    exact ⟨b1, b2, b3, b4⟩
theorem trd_sb {c : Int32} : ∀ j, j < 157 → trdP g P c j = P j := fun j hj => trd_lo (by omega)
/-- the step comes on a CELL -/
theorem trw_ok (h : STA L T P M) (hD : okD P) (hK : okK P) (hE : okE B P) (hB : B ≤ 100000000) (hm : MDW L P M n i s) (hc : inC P c) (H : Ev none e 62 0 [some (.ref 104), some (.int c), none] [] M v M' 0 0) : v = none ∧ STA L T (trdP (T 0) P c) M' ∧ MDW L (trdP (T 0) P c) M' n i s ∧ okK (trdP (T 0) P c) ∧ okE (B + 1) (trdP (T 0) P c) ∧ FZ (gwF L) (gwW L) (gwO L) M M' ∧ (zI M' 104 10 = if c = zI M 104 9 then 1 else zI M 104 10) ∧ zI M' 104 9 = zI M 104 9 ∧ ∀ j, oN M' (L + 11) j = oN M (L + 11) j := by
  have hL := h.ld
  have hld := ld_cases hL
  have hWK := h.2.2.2.2.2.1
  obtain ⟨r1, r2, r3, r4, r5, r6⟩ := tread_ok h.1 h.2.1 hc H
  have hE' := hE.trd h.1.2.2.2.2.2.1.2 hB hc
  obtain ⟨t1, t2, t3, t4⟩ := h.2.2.2.1
  have lo : ∀ j, j < 522 → trdP (T 0) P c j = P j := fun j hj => trd_lo hj
  have zL : ∀ k, zI M' L k = zI M L k := fun k => r3.fi (by unfold trF; omega)
  have hk60 := hK.2.1
  refine ⟨r1, h.mv hD r2 (tr_go r3) r4 trd_sb hE'.nn (fun c2 hc2 => ?_) r5 ?_ (hWK.fz r3 (fun q => q)), hm.same hWK (zL 15) (fun j => r3.on (fun q => q)) (fun b f h1 h2 => r3.fi (by unfold trF; omega)) (fun j h1 h2 => lo j (by omega)), ⟨by rw [lo 157 (by decide)]; exact hK.1, by rw [lo 157 (by decide)]; exact hK.2.1, fun t ht => ?_⟩, hE', tr_go r3, r6, r3.fi (by unfold trF; omega), fun j => r3.on (fun q => q)⟩
  · have hc3 := (inC.eq (lo 0 (by decide)) (lo 1 (by decide))).mp hc2
    have : rI M' (L + 8) c2 = rI M (L + 8) c2 := r3.rn (by unfold trW; omega)
    rw [this, lo 157 (by decide), h.crd c2 hc3]
    exact (crd_congr _ (fun t ht => lo _ (by omega))).symm
  · unfold PKt
    rw [zL, zL, zL, zL, lo 518 (by decide), lo 519 (by decide), lo 520 (by decide), lo 521 (by decide)]
    exact ⟨t1, t2, t3, t4⟩
  · rw [lo 157 (by decide)] at ht
    rw [inC.eq (lo 0 (by decide)) (lo 1 (by decide)), lo _ (by omega), lo _ (by omega), lo 12 (by decide), lo _ (by omega)]
    exact hK.2.2 t ht
/-- one goes for good -/
theorem gon_ok (h : STA L T P M) (hD : okD P) (hK : okK P) (hm : MDW L P M n i s) (hin : i < n) {x17 x18 : Int32} (hQ : ∀ j, j ≠ 519 → j ≠ 520 → Q j = P j) (h17 : Q 519 = x17) (h18 : Q 520 = x18) (h2 : M' = wF (wI (wF (wF M L 17 x17) L 18 x18) (L + 8) (P (158 + 6 * s.length)).toNatClampNeg (crdP P (P (158 + 6 * s.length)) (P 157).toInt.toNat - 1)) (oN M (L + 11) i) 0 (-1)) : STA L T (leaP Q s.length) M' ∧ MDW L (leaP Q s.length) M' n (i + 1) s ∧ okK (leaP Q s.length) ∧ FZ (gwF L) (gwW L) (gwO L) M M' ∧ (∀ k, zI M' 104 k = zI M 104 k) ∧ ∀ j, oN M' (L + 11) j = oN M (L + 11) j := by
  have hS := h.sq
  have hL := h.ld
  have hw := h.wh
  have hWK := h.2.2.2.2.2.1
  have hld := ld_cases hL
  obtain ⟨a1, a2, a3, a4, a5, a6, a7, a8⟩ := id hm
  have hs := sort_len a8 (fun t j ht => (a5 t j ht).1)
  have hb := hWK.2 i (by omega)
  have hbt := wk_t hS.1 hL (j := i) (by omega)
  obtain ⟨k0, k60, kk⟩ := id hK
  have hks : s.length < (P 157).toInt.toNat := by omega
  have kh := (kk s.length hks).1
  obtain ⟨here, eh⟩ : ∃ x, x = P (158 + 6 * s.length) := ⟨_, rfl⟩
  rw [← eh] at h2 kh
  obtain ⟨b, eb⟩ : ∃ b, b = oN M (L + 11) i := ⟨_, rfl⟩
  rw [← eb] at hb hbt h2
  have hF : FZ (fun a k => (a = L ∧ (k = 17 ∨ k = 18)) ∨ a = b) (crO L) noO M M' := by
    rw [h2]
    exact (((FZ.wF (F := fun a k => (a = L ∧ (k = 17 ∨ k = 18)) ∨ a = b) (W := crO L) (O := noO) (Or.inl ⟨rfl, Or.inl rfl⟩)).trans (FZ.wF (Or.inl ⟨rfl, Or.inr rfl⟩))).trans (FZ.wI rfl)).trans (FZ.wF (Or.inr rfl))
  have hS2 : SQ M' := by rw [h2]; exact hS.kf.kf.ki.kf
  have hgo : FZ (gwF L) (gwW L) (gwO L) M M' := hF.more (fun a k q => by
    rcases q with q | q
    · exact Or.inl ⟨q.1, by omega⟩
    · exact Or.inr (Or.inl (by omega))) (fun a q => Or.inl (by have : a = L + 8 := q; omega)) (fun _ q => q.elim)
  have t1' : (1 : Int32).toInt = 1 := rfl
  have q157 : Q 157 = P 157 := hQ 157 (by decide) (by decide)
  have m1 : (P 157 - 1).toInt = (P 157).toInt - 1 := i32_m1 (by omega)
  have l157 : leaP Q s.length 157 = P 157 - 1 := by unfold leaP; rw [if_pos rfl, q157]
  have lo : ∀ j, j < 157 → leaP Q s.length j = P j := fun j hj => by
    unfold leaP
    rw [if_neg (by omega), if_neg (by omega), if_neg (by omega)]
    exact hQ j (by omega) (by omega)
  have hi : ∀ j, 518 ≤ j → leaP Q s.length j = Q j := fun j hj => by
    unfold leaP
    rw [if_neg (by omega), if_neg (by rw [q157]; omega), if_neg (by rw [q157]; omega)]
  have lw : ∀ t f, t < s.length → f < 6 → leaP Q s.length (158 + 6 * t + f) = P (158 + 6 * t + f) := fun t f ht hf => by
    unfold leaP
    rw [if_neg (by omega), if_neg (by omega), if_neg (by rw [q157]; omega)]
    exact hQ _ (by omega) (by omega)
  have hw2 : ∀ t f, s.length ≤ t → t < (P 157 - 1).toInt.toNat → f < 6 → leaP Q s.length (158 + 6 * t + f) = P (158 + 6 * (t + 1) + f) := fun t f ht h2 hf => by
    unfold leaP
    rw [if_neg (by omega), if_pos ⟨by omega, by rw [q157]; omega⟩]
    rw [show 158 + 6 * t + f + 6 = 158 + 6 * (t + 1) + f from by omega]
    exact hQ _ (by omega) (by omega)
  have h522 : ∀ j, 522 ≤ j → leaP Q s.length j = P j := fun j hj => (hi j (by omega)).trans (hQ j (by omega) (by omega))
  have e0 := lo 0 (by decide)
  have e1 := lo 1 (by decide)
  have lkn : ∀ b' j, lkW b' → rN M' b' j = rN M b' j := fun b' j hb' => hF.rn (fun q => by have q : b' = L + 8 := q; exact lk_ld hL 8 (by decide) (q ▸ hb'))
  obtain ⟨t1, t2, t3, t4⟩ := h.2.2.2.1
  have zL : ∀ k, k ≠ 17 → k ≠ 18 → zI M' L k = zI M L k := fun k k1 k2 => hF.fi (by omega)
  have hmQ : MDW L Q M n i s := hm.same hWK rfl (fun _ => rfl) (fun _ _ _ _ => rfl) (fun j h1 h2 => hQ j (by omega) (by omega))
  refine ⟨h.mv hD hS2 hgo (h.cel.fz hF (fun f hf q => by have q : L + 1 + f = L + 8 := q; omega) e0 e1 h522) lo (fun c hc => ?_) (fun c hc => ?_) (h.2.1.mv e0 e1 h522 lkn) ⟨?_, ?_, ?_, ?_⟩ (hWK.fz hF (fun q => q)), hmQ.gone hWK hin (zL 15 (by decide) (by decide)) (fun j => hF.on (fun q => q)) (fun b' f h1 h2 h3 => hF.fi (fun q => ?_)) ?_, ⟨?_, ?_, fun t ht => ?_⟩, hgo, fun k => hF.fi (by omega), fun j => hF.on (fun q => q)⟩
  · have hc2 := (inC.eq e0 e1).mp hc
    have hsame : ∀ f, cE (leaP Q s.length) f c = cE P f c := fun f => h522 _ cX_ge
    unfold nnC
    rw [hsame, hsame, hsame, hsame]
    exact h.nn c hc2
  · have hc2 := (inC.eq e0 e1).mp hc
    have hm' : (P 157).toInt.toNat = (P 157 - 1).toInt.toNat + 1 := by omega
    have hr : rI M' (L + 8) c = rI (wI (wF (wF M L 17 x17) L 18 x18) (L + 8) here.toNatClampNeg (crdP P here (P 157).toInt.toNat - 1)) (L + 8) c := by
      rw [h2]
      unfold rI
      rw [rN_wF]
    have hr0 : rI (wF (wF M L 17 x17) L 18 x18) (L + 8) c = rI M (L + 8) c := by
      unfold rI
      rw [rN_wF, rN_wF]
    have hcd := crd_del (P := P) (P' := leaP Q s.length) (c := c) (P 157 - 1).toInt.toNat s.length (by omega) (fun t ht => lw t 0 ht (by decide)) (fun t h3 h4 => hw2 t 0 h3 h4 (by decide))
    rw [l157, hcd, ← hm', hr, crow_up hS.kf.kf.1 hL hw kh hc2, hr0, h.crd c hc2, ← eh]
    unfold onI
    by_cases hcc : c = here
    · rw [if_pos hcc, if_pos (show here = c from hcc.symm), hcc]
    · rw [if_neg hcc, if_neg (show ¬ here = c from fun q => hcc q.symm)]
      grind
  · rw [zL 16 (by decide) (by decide), t1, hi 518 (by decide)]; exact (hQ 518 (by decide) (by decide)).symm
  · rw [hi 519 (by decide), h17, h2, fI_wF_ne (by omega), fI_wI, fI_wF_ne (by omega)]
    exact fI_wF_eq hS.1 hL qi_8_17
  · rw [hi 520 (by decide), h18, h2, fI_wF_ne (by omega), fI_wI]
    exact fI_wF_eq hS.kf.1 hL qi_8_18
  · rw [zL 19 (by decide) (by decide), t4, hi 521 (by decide)]; exact (hQ 521 (by decide) (by decide)).symm
  · rcases q with q | q
    · omega
    · exact h3 (q.trans eb)
  · rw [← eb, h2]
    exact fI_wF_eq hS.kf.kf.ki.1 hbt qi_21_0
  · rw [l157, m1]; omega
  · rw [l157, m1]; omega
  · rw [l157] at ht
    have ht2 : t < (P 157 - 1).toInt.toNat := ht
    rw [inC.eq e0 e1, lo 12 (by decide)]
    by_cases hts : t < s.length
    · have f0 := lw t 0 hts (by decide)
      have f1 := lw t 1 hts (by decide)
      have f3 := lw t 3 hts (by decide)
      rw [Nat.add_zero] at f0
      rw [f0, f1, f3]
      exact kk t (by omega)
    · have f0 := hw2 t 0 (by omega) ht2 (by decide)
      have f1 := hw2 t 1 (by omega) ht2 (by decide)
      have f3 := hw2 t 3 (by omega) ht2 (by decide)
      rw [Nat.add_zero, Nat.add_zero] at f0
      rw [f0, f1, f3]
      exact kk (t + 1) (by omega)
theorem okE.lea (hE : okE B P) (hK1 : 0 ≤ (P 157).toInt) (hK2 : (P 157).toInt ≤ 60) (hk : k ≤ 60) : okE B (leaP P k) := by
  have t1 : (1 : Int32).toInt = 1 := rfl
  have hx : (P 157 - 1).toInt.toNat ≤ 59 := by
    rw [i32_m1 (by omega)]
    omega
  refine hE.sb ?_ ?_ (fun j hj => ?_)
  · unfold leaP
    rw [if_neg (by omega), if_neg (by omega), if_neg (by omega)]
  · unfold leaP
    rw [if_neg (by omega), if_neg (by omega), if_neg (by omega)]
  · unfold leaP
    rw [if_neg (by omega), if_neg (by omega), if_neg (by omega)]
end LVE
/-! THE CLASS'S sweep -/
section SWE
variable {e L : Nat} {T : TS} {P : PK} {M M1 M' : Mem} {v : Option Value} {n i k b B : Nat} {s : List Nat}
theorem swap_o (hS : SQ M) (hL : gNth sT L = some 8) {a b : Nat} (ha : a < 60) (hb : b < 60) {N : Mem} (hN : N = wO (wO M (L + 11) a (oN M (L + 11) b)) (L + 11) b (oN M (L + 11) a)) : SQ N ∧ FZ noF noO (gwO L) M N ∧ ∀ j, oN N (L + 11) j = if j = b then oN M (L + 11) a else if j = a then oN M (L + 11) b else oN M (L + 11) j := by
  have h14 := fx_h14 hL
  have hta := wk_t hS.1 hL ha
  have htb := wk_t hS.1 hL hb
  have hS1 : SQ (wO M (L + 11) a (oN M (L + 11) b)) := hS.ko h14 qz_19 htb
  refine ⟨by rw [hN]; exact hS1.ko h14 qz_19 hta, by rw [hN]; exact (FZ.wO (F := noF) (W := noO) (O := gwO L) rfl).trans (FZ.wO rfl), fun j => ?_⟩
  rw [hN]
  by_cases h1 : j = b
  · rw [if_pos h1, h1]
    exact oN_wO_eq hS1.1 h14 qz_19 hb
  · rw [if_neg h1, oN_wO_ne hS1.1 h14 qz_19 h1]
    by_cases h2 : j = a
    · rw [if_pos h2, h2]
      exact oN_wO_eq hS.1 h14 qz_19 ha
    · rw [if_neg h2, oN_wO_ne hS.1 h14 qz_19 h2]
theorem swap_k (h : WKs L M) {N : Mem} {a b : Nat} (ha : a < 60) (hb : b < 60) (hN : ∀ j, oN N (L + 11) j = if j = b then oN M (L + 11) a else if j = a then oN M (L + 11) b else oN M (L + 11) j) : WKs L N := by
  obtain ⟨h1, h2⟩ := h
  have hp : ∀ j, j < 60 → ∃ j', j' < 60 ∧ oN N (L + 11) j = oN M (L + 11) j' ∧ (j = b → j' = a) ∧ (j ≠ b → j = a → j' = b) ∧ (j ≠ b → j ≠ a → j' = j) := fun j hj => by
    rw [hN]
    by_cases q1 : j = b
    · rw [if_pos q1]
      exact ⟨a, ha, rfl, fun _ => rfl, fun q => absurd q1 q, fun q => absurd q1 q⟩
    · rw [if_neg q1]
      by_cases q2 : j = a
      · rw [if_pos q2]
        exact ⟨b, hb, rfl, fun q => absurd q q1, fun _ _ => rfl, fun _ q => absurd q2 q⟩
      · rw [if_neg q2]
        exact ⟨j, hj, rfl, fun q => absurd q q1, fun _ q => absurd q q2, fun _ _ => rfl⟩
  refine ⟨fun j k hj hk q => ?_, fun k hk => ?_⟩
  · obtain ⟨j', a1, a2, a3, a4, a5⟩ := hp j hj
    obtain ⟨k', b1, b2, b3, b4, b5⟩ := hp k hk
    rw [a2, b2] at q
    have hq := h1 j' k' a1 b1 q
    by_cases j1 : j = b
    · have e1 := a3 j1
      by_cases k1 : k = b
      · omega
      · by_cases k2 : k = a
        · have := b4 k1 k2
          omega
        · have := b5 k1 k2
          omega
    · by_cases j2 : j = a
      · have e1 := a4 j1 j2
        by_cases k1 : k = b
        · have := b3 k1
          omega
        · by_cases k2 : k = a
          · omega
          · have := b5 k1 k2
            omega
      · have e1 := a5 j1 j2
        by_cases k1 : k = b
        · have := b3 k1
          omega
        · by_cases k2 : k = a
          · have := b4 k1 k2
            omega
          · have := b5 k1 k2
            omega
  · obtain ⟨j', a1, a2, _⟩ := hp k hk
    rw [a2]
    exact h2 j' a1
theorem swp_l (hL : gNth sT L = some 8) (hlw : fR M 104 7 = L) (h15 : zI M L 15 = nI n) (hn : n ≤ 60) (hs1 : ∀ t j : Nat, s[t]? = some j → j < n ∧ zI M (oN M (L + 11) j) 0 ≠ -1) (hs2 : ∀ j, j < n → j ∉ s → zI M (oN M (L + 11) j) 0 = -1) (hs3 : ∀ t t' j j' : Nat, t < t' → s[t]? = some j → s[t']? = some j' → j < j') : ∀ (r i st : Nat) (sy iz : Int32) (c3 : Option Value) (N : Mem), SQ N → FZ noF noO (gwO L) M N → WKs L N → (∀ t j : Nat, t < st → s[t]? = some j → oN N (L + 11) t = oN M (L + 11) j) → (∀ j, i ≤ j → j < 60 → oN N (L + 11) j = oN M (L + 11) j) → (∀ t j : Nat, s[t]? = some j → (t < st ↔ j < i)) → st ≤ i → st ≤ s.length → i + r = n → sy.toInt = (st : Int) → iz.toInt = (i : Int) → Ev none e 61 4 [some (.ref 104), some (.int sy), some (.int iz), c3] [] N v M' 0 0 → v = none ∧ ∃ N1 sz, SQ N1 ∧ FZ noF noO (gwO L) M N1 ∧ WKs L N1 ∧ (∀ t j : Nat, s[t]? = some j → oN N1 (L + 11) t = oN M (L + 11) j) ∧ sz.toInt = (s.length : Int) ∧ M' = wF N1 L 15 sz := by
  have hnI : (nI n).toInt = (n : Int) := nI_toInt (by omega)
  intro r
  induction r with
  | zero =>
    intro i st sy iz c3 N hS hF hk hA hB hC hsi hsl hir hsy hiz H
    have l7 : fR N 104 7 = L := (hF.fr (fun q => q)).trans hlw
    have z15 : zI N L 15 = nI n := (hF.fi (fun q => q)).trans h15
    have hst : st = s.length := by
      rcases Nat.lt_or_ge st s.length with h | h
      · have h1 : s[st]? = some s[st] := List.getElem?_eq_getElem h
        have h2 := (hs1 _ _ h1).1
        have h3 := (hC _ _ h1).mpr (by omega)
        omega
      · omega
    rcases swp_4 hS H with ⟨_, h1, h2⟩ | ⟨a1, _⟩ | ⟨a1, _⟩
    · rw [l7] at h2
      exact ⟨h1, N, sy, hS, hF, hk, fun t j ht => hA t j (by rw [hst]; exact (List.getElem?_eq_some_iff.mp ht).1) ht, by omega, h2⟩
    all_goals exact absurd (Int32.le_iff_toInt_le.mpr (by rw [l7, z15]; omega)) a1
  | succ r ih =>
    intro i st sy iz c3 N hS hF hk hA hB hC hsi hsl hir hsy hiz H
    have l7 : fR N 104 7 = L := (hF.fr (fun q => q)).trans hlw
    have z15 : zI N L 15 = nI n := (hF.fi (fun q => q)).trans h15
    have hi1 : (iz + 1).toInt = ((i + 1 : Nat) : Int) := by
      rw [i32_p1 (by omega)]
      omega
    have hob : oI N (L + 11) iz = oN M (L + 11) i := by
      unfold oI
      rw [cl_n hiz]
      exact hB i (Nat.le_refl _) (by omega)
    have hz : zI N (oN M (L + 11) i) 0 = zI M (oN M (L + 11) i) 0 := hF.fi (fun q => q)
    rcases swp_4 hS H with ⟨a1, _⟩ | ⟨_, a2, _, H⟩ | ⟨_, a2, _, _, _, _, H⟩
    · rw [l7, z15] at a1
      have := Int32.le_iff_toInt_le.mp a1
      omega
    · rw [l7, hob, hz] at a2
      have hni : i ∉ s := fun q => by
        obtain ⟨t, ht⟩ := List.getElem?_of_mem q
        exact (hs1 t i ht).2 a2
      refine ih (i + 1) st sy (iz + 1) _ N hS hF hk hA (fun j h1 h2 => hB j (by omega) h2) (fun t j ht => ?_) (by omega) hsl (by omega) hsy hi1 H
      have hne : j ≠ i := fun q => hni (q ▸ List.mem_of_getElem? ht)
      rw [hC t j ht]
      omega
    · rw [l7, hob, hz] at a2
      have hmi : i ∈ s := by
        by_cases h : i ∈ s
        · exact h
        · exact absurd (hs2 i (by omega) h) a2
      obtain ⟨t, ht⟩ := List.getElem?_of_mem hmi
      have htl := (List.getElem?_eq_some_iff.mp ht).1
      have hts : t = st := by
        have h1 : ¬ t < st := fun q => absurd ((hC t i ht).mp q) (Nat.lt_irrefl _)
        rcases Nat.lt_or_ge st t with h | h
        · have h2 : s[st]? = some s[st] := List.getElem?_eq_getElem (by omega)
          have h3 := hs3 st t _ _ h h2 ht
          have h4 := (hC _ _ h2).mpr h3
          omega
        · omega
      subst hts
      rw [l7] at H
      have e1 : iz.toNatClampNeg = i := cl_n hiz
      have e2 : sy.toNatClampNeg = t := cl_n hsy
      have o1 : oI N (L + 11) iz = oN N (L + 11) i := by unfold oI; rw [e1]
      have o2 : oI N (L + 11) sy = oN N (L + 11) t := by unfold oI; rw [e2]
      rw [o1, o2, e1, e2] at H
      obtain ⟨q1, q2, q3⟩ := swap_o hS hL (a := i) (b := t) (by omega) (by omega) rfl
      refine ih (i + 1) (t + 1) (sy + 1) (iz + 1) _ _ q1 (hF.trans q2) (swap_k hk (by omega) (by omega) q3) (fun t' j h1 h2 => ?_) (fun j h1 h2 => ?_) (fun t' j h1 => ?_) (by omega) htl (by omega) (by rw [i32_p1 (by omega)]; omega) hi1 H
      · rw [q3]
        by_cases h3 : t' = t
        · subst h3
          rw [if_pos rfl, hB i (Nat.le_refl _) (by omega)]
          cases ht.symm.trans h2
          rfl
        · rw [if_neg h3, if_neg (show ¬ t' = i by omega)]
          exact hA t' j (by omega) h2
      · rw [q3, if_neg (show ¬ j = t by omega), if_neg (show ¬ j = i by omega)]
        exact hB j (by omega) h2
      · constructor
        · intro h3
          by_cases h4 : t' = t
          · subst h4
            cases ht.symm.trans h1
            omega
          · have := (hC t' j h1).mp (by omega)
            omega
        · intro h3
          by_cases h4 : j = i
          · subst h4
            rcases Nat.lt_trichotomy t' t with h5 | h5 | h5
            · omega
            · omega
            · have := hs3 t t' _ _ h5 ht h1
              omega
          · have := (hC t' j h1).mpr (by omega)
            omega
theorem swp_ok (h : STA L T P M) (hD : okD P) (hK : okK P) (hm : MDW L P M n n s) (H : Ev none e 61 0 [some (.ref 104), none, none, none] [] M v M' 0 0) : v = none ∧ STA L T P M' ∧ LST L P M' ∧ FZ (gwF L) (gwW L) (gwO L) M M' ∧ ∀ k, zI M' 104 k = zI M 104 k := by
  have hS := h.sq
  have hL := h.ld
  have hld := ld_cases hL
  have hWK := h.2.2.2.2.2.1
  obtain ⟨a1, a2, a3, a4, a5, a6, a7, a8⟩ := hm
  have hw : ∀ t j : Nat, s[t]? = some j → t < (P 157).toInt.toNat := fun t j ht => by
    have := (List.getElem?_eq_some_iff.mp ht).1
    omega
  obtain ⟨r1, N1, sz, r2, r3, r4, r5, r6, r7⟩ := swp_l hL h.lw a1 a2 (fun t j ht => by
    obtain ⟨q1, q2⟩ := a5 t j ht
    refine ⟨q1, fun q => ?_⟩
    have h1 := (hK.2.2 t (hw t j ht)).1.1
    rw [← q2.1, q] at h1
    exact absurd h1 (by decide)) a7 a8 n 0 0 0 0 none M hS (FZ.refl _) hWK (fun t j h1 _ => absurd h1 (Nat.not_lt_zero t)) (fun j _ _ => rfl) (fun t j _ => by omega) (Nat.le_refl _) (Nat.zero_le _) (by omega) rfl rfl (swp_0 hS H)
  have hF : FZ (fun a k => a = L ∧ k = 15) noO (gwO L) M M' := by
    rw [r7]
    exact (r3.more (fun _ _ q => q.elim) (fun _ q => q) (fun _ q => q)).trans (FZ.wF (F := fun a k => a = L ∧ k = 15) ⟨rfl, rfl⟩)
  have hgo : FZ (gwF L) (gwW L) (gwO L) M M' := hF.more (fun a k q => Or.inl ⟨q.1, by omega⟩) (fun a q => q.elim) (fun _ q => q)
  have hS' : SQ M' := by rw [r7]; exact r2.kf
  have oo : ∀ j, oN M' (L + 11) j = oN N1 (L + 11) j := fun j => by
    rw [r7]
    unfold oN
    rw [roL_wF]
  have hk' : WKs L M' := ⟨fun j k hj hk q => r4.1 j k hj hk (by rw [oo, oo] at q; exact q), fun k hk => by rw [oo]; exact r4.2 k hk⟩
  obtain ⟨t1, t2, t3, t4⟩ := h.2.2.2.1
  have fz : ∀ k, k ≠ 15 → zI M' L k = zI M L k := fun k hk => hF.fi (fun q => hk q.2)
  have e157 : sz = P 157 := Int32.toInt_inj.mp (by rw [r6, a4]; omega)
  refine ⟨r1, h.mv hD hS' hgo (h.cel.fz hF (fun f hf q => q) rfl rfl (fun _ _ => rfl)) (fun _ _ => rfl) h.nn (fun c hc => ?_) (h.2.1.mv rfl rfl (fun _ _ => rfl) (fun b' j _ => hF.rn (fun q => q))) ⟨?_, ?_, ?_, ?_⟩ hk', ⟨?_, fun k hk => ?_⟩, hgo, fun k => hF.fi (by omega)⟩
  · have : rI M' (L + 8) c = rI M (L + 8) c := hF.rn (fun q => q)
    rw [this]
    exact h.crd c hc
  · rw [fz 16 (by decide)]; exact t1
  · rw [fz 17 (by decide)]; exact t2
  · rw [fz 18 (by decide)]; exact t3
  · rw [fz 19 (by decide)]; exact t4
  · rw [r7, fI_wF_eq r2.1 hL qi_8_15]
    exact e157
  · have hkl : k < s.length := by omega
    have hg : s[k]? = some s[k] := List.getElem?_eq_getElem hkl
    obtain ⟨q1, q2⟩ := a5 k _ hg
    rw [oo, r5 k _ hg]
    have hb := hWK.2 s[k] (by omega)
    exact q2.eq (fun f _ => hF.fi (by omega)) (fun _ _ => rfl)
end SWE
/-! THE CLASS'S go: one walker, all walkers, one TICK -/
def WFl (w : Int32) (ss : List Int32) (M : Mem) : Prop := zI M 104 9 = w ∧ zI M 104 10 = bI (decide (w ∈ ss))
section ONE
variable {e L : Nat} {T : TS} {P P' Q : PK} {M M1 M' : Mem} {v : Option Value} {w ti bf nz : Int32} {n i B : Nat} {s : List Nat} {ss : List Int32}
theorem WFl.same (h : WFl w ss M) (hz : ∀ k, zI M' 104 k = zI M 104 k) : WFl w ss M' := ⟨(hz 9).trans h.1, (hz 10).trans h.2⟩
theorem WFl.cons {c : Int32} (h : WFl w ss M) (h9 : zI M' 104 9 = zI M 104 9) (h10 : zI M' 104 10 = if c = zI M 104 9 then 1 else zI M 104 10) : WFl w (c :: ss) M' := by
  refine ⟨h9.trans h.1, ?_⟩
  rw [h10, h.1, h.2]
  by_cases hc : c = w
  · rw [if_pos hc, decide_eq_true (by rw [hc]; exact List.mem_cons_self)]
    rfl
  · rw [if_neg hc]
    congr 1
    refine decide_eq_decide.mpr ?_
    rw [List.mem_cons]
    exact ⟨fun q => Or.inr q, fun q => q.elim (fun q => absurd q.symm hc) id⟩
theorem MDW.now (h : MDW L P M n i s) (hin : i < n) : WFq (oN M (L + 11) i) P s.length M := by
  have := h.2.2.2.2.2.1 i (Nat.le_refl _) hin
  rw [Nat.sub_self] at this
  exact this
/-- the numbers of a walker's WISH -/
theorem wis_ok (hD : okD P) (hK : okK P) {k : Nat} (hk : k < (P 157).toInt.toNat) : (P (158 + 6 * k + 1)).toInt.toNat < (P 12).toInt.toNat ∧ inC P (golP P k) ∧ 0 ≤ (P (wxP P k + 2)).toInt ∧ (P (wxP P k + 2)).toInt ≤ 5 ∧ (P (wxP P k + 1)).toInt.toNat < (P 2).toInt.toNat ∧ 0 ≤ (P (wxP P k + 1)).toInt := by
  obtain ⟨_, h2, h3, _⟩ := hK.2.2 k hk
  have hw : (P (158 + 6 * k + 1)).toInt.toNat < (P 12).toInt.toNat := by omega
  obtain ⟨_, a2, a3, _⟩ := hD.2.2.2.2 _ hw
  have e : wxP P k = 13 + 6 * (P (158 + 6 * k + 1)).toInt.toNat := rfl
  rw [← e] at a2 a3
  have h9 : (P (wxP P k + 1)).toInt.toNat < (P 2).toInt.toNat := by omega
  exact ⟨hw, hD.2.1.2.2 _ h9, a3.1, a3.2, h9, a2.1⟩
theorem dir_rng (hD : okD P) (hK : okK P) {k : Nat} (hk : k < (P 157).toInt.toNat) : dirP T P k = -1 ∨ (0 ≤ (dirP T P k).toInt ∧ (dirP T P k).toInt < 8 ∧ inC P (besP P (P (158 + 6 * k)) (dirP T P k))) := by
  have hg := (wis_ok hD hK hk).2.1
  have hh := (hK.2.2 k hk).1
  rcases cho_rng (g := T 0) (P := P) (q := T (hbP P k)) (w := wcP P k) hg.1 with h | ⟨h1, h2, h3⟩
  · exact Or.inl h
  · refine Or.inr ⟨h1, h2, ?_⟩
    rcases besP_in (d := dirP T P k) hD.1 hh with q | q
    · exact absurd (show besP P (wcP P k).1 (choP (T 0) P (T (hbP P k)) (wcP P k)) < 0 by
        have q : besP P (wcP P k).1 (choP (T 0) P (T (hbP P k)) (wcP P k)) = -1 := q
        rw [q]
        decide) h3
    · exact q
theorem onw_ok (hX : STA L T P M) (hD : okD P) (hK : okK P) (hE : okE B P) (hB : B ≤ 100000000) (hm : MDW L P M n i s) (hin : i < n) (hf : WFl w ss M) {iz : Int32} (hi : iz.toInt = (i : Int)) {c5 c6 c7 c8 : Option Value} (H : Ev none e 58 29 [some (.ref 104), some (.int ti), some (.int bf), some (.int nz), some (.int iz), c5, c6, c7, c8] [] M v M' 0 0) : ∃ (P6 : PK) (ss6 : List Int32) (s6 : List Nat) (M6 : Mem) (d5 d6 d7 d8 : Option Value), STA L T P6 M6 ∧ okD P6 ∧ okK P6 ∧ okE (B + 1) P6 ∧ MDW L P6 M6 n (i + 1) s6 ∧ WFl w ss6 M6 ∧ FZ (gwF L) (gwW L) (gwO L) M M6 ∧ (∀ r, wlkP T (r + 1) s.length (P, ss) = wlkP T r s6.length (P6, ss6)) ∧ (∀ j, j < 157 → P6 j = P j) ∧ P6 518 = P 518 ∧ (∀ c, c ∈ ss6 → c ∈ ss ∨ inC P c) ∧ Ev none e 58 29 [some (.ref 104), some (.int ti), some (.int bf), some (.int nz), some (.int (iz + 1)), d5, d6, d7, d8] [] M6 v M' 0 0 := by
  have hS := hX.sq
  have hL := hX.ld
  have hld := ld_cases hL
  have hWK := hX.2.2.2.2.2.1
  have hWX := hX.2.2.2.2.1
  have hPs := hX.2.2.1
  obtain ⟨a1, a2, a3, a4, a5, a6, a7, a8⟩ := id hm
  have hsl := sort_len a8 (fun t j ht => (a5 t j ht).1)
  obtain ⟨k, ek⟩ : ∃ k, k = s.length := ⟨_, rfl⟩
  have hks : k < (P 157).toInt.toNat := by omega
  have hk60 := hK.2.1
  have hcur := hm.now hin
  rw [← ek] at hcur
  have hnI : (nI n).toInt = (n : Int) := nI_toInt (by omega)
  obtain ⟨w1, w2, w3, w4, w5, w6⟩ := wis_ok hD hK hks
  have hbt := wk_t hS.1 hL (j := i) (by omega)
  have hb := hWK.2 i (by omega)
  have hob : oI M (L + 11) iz = oN M (L + 11) i := by
    unfold oI
    rw [cl_n hi]
  have hi1 : (iz + 1).toInt = ((i + 1 : Nat) : Int) := by
    rw [i32_p1 (by omega)]
    omega
  rcases goo_29 hS H with ⟨q1, _⟩ | ⟨_, _, _, _, e1, v1, M1, rfl, H1, H⟩
  · rw [hX.lw, a1] at q1
    have := Int32.le_iff_toInt_le.mp q1
    omega
  · obtain ⟨b, eb⟩ : ∃ b, b = oN M (L + 11) i := ⟨_, rfl⟩
    have hwo : oI M (L + 10) (P (158 + 6 * k + 1)) = L + 12 + (P (158 + 6 * k + 1)).toInt.toNat := hWX (P (158 + 6 * k + 1)).toInt.toNat (by have := hD.2.2.2.1; omega)
    have hx1 : zI M (L + 12 + (P (158 + 6 * k + 1)).toInt.toNat) 1 = P (wxP P k + 1) := hPs.2.2.2.2 _ w1 1 (by decide)
    have hx2 : zI M (L + 12 + (P (158 + 6 * k + 1)).toInt.toNat) 2 = P (wxP P k + 2) := hPs.2.2.2.2 _ w1 2 (by decide)
    have hgo : rI M (L + 9) (P (wxP P k + 1)) = golP P k := hPs.2.2.1.2 (P (wxP P k + 1)).toInt.toNat w5
    have hxt : gNth sT (L + 12 + (P (158 + 6 * k + 1)).toInt.toNat) = some 20 := wi_t hS.1 hL hWX (by have := hD.2.2.2.1; omega)
    rw [hX.lw, hob, ← eb] at H1 H
    rw [← eb] at hcur hbt hb
    rw [hcur.2.1, hwo, hx1, hgo] at H1 H
    rw [hx2] at H1
    have h157 := (hK.2.2 k hks)
    have hh5 : (P (wxP P k + 2)).toInt = ((P (wxP P k + 2)).toInt.toNat : Int) := by omega
    obtain ⟨r1, r2, r3, r4⟩ := chow_ok hbt hX.1 hX.2.1 hh5 (by omega) w2 (by rw [hcur.1]; exact h157.1) (al := false) (by rw [hX.2.2.2.2.2.2]; rfl) (by rw [hcur.2.2.2.2]; exact h157.2.2.2) H1
    have hdir : v1 = some (.int (dirP T P k)) := by
      rw [r1, hcur.1, hcur.2.2.2.2, hcur.2.2.2.1]
      unfold dirP wcP hbP
      rw [Nat.add_comm 1]
    rw [hdir] at H
    have hX1 := hX.lk hD r2 r3 r4
    have hm1 := hm.lk hWK r3
    have hf1 : WFl w ss M1 := hf.same (fun k => r3.fi (fun q => q))
    have oo1 : oN M1 (L + 11) i = b := (r3.on (fun q => q)).trans eb.symm
    have hF1 := lk_go (L := L) r3
    have tail : ∀ (P2 : PK) (ss2 : List Int32) (M2 : Mem) (c8 : Option Value), stpP T (P, ss) k = (ageP P2 k, ss2) → STA L T P2 M2 → okD P2 → okK P2 → okE (B + 1) P2 → MDW L P2 M2 n i s → WFl w ss2 M2 → FZ (gwF L) (gwW L) (gwO L) M M2 → (∀ j, j < 157 → P2 j = P j) → P2 518 = P 518 → (∀ c, c ∈ ss2 → c ∈ ss ∨ inC P c) → oN M2 (L + 11) i = b → Ev none (e1 + 1) 58 173 [some (.ref 104), some (.int ti), some (.int bf), some (.int nz), some (.int iz), some (.ref b), some (.ref (L + 12 + (P (158 + 6 * k + 1)).toInt.toNat)), some (.int (golP P k)), c8] [] M2 v M' 0 0 → ∃ (P6 : PK) (ss6 : List Int32) (s6 : List Nat) (M6 : Mem) (d5 d6 d7 d8 : Option Value), STA L T P6 M6 ∧ okD P6 ∧ okK P6 ∧ okE (B + 1) P6 ∧ MDW L P6 M6 n (i + 1) s6 ∧ WFl w ss6 M6 ∧ FZ (gwF L) (gwW L) (gwO L) M M6 ∧ (∀ r, wlkP T (r + 1) s.length (P, ss) = wlkP T r s6.length (P6, ss6)) ∧ (∀ j, j < 157 → P6 j = P j) ∧ P6 518 = P 518 ∧ (∀ c, c ∈ ss6 → c ∈ ss ∨ inC P c) ∧ Ev none (e1 + 1) 58 29 [some (.ref 104), some (.int ti), some (.int bf), some (.int nz), some (.int (iz + 1)), d5, d6, d7, d8] [] M6 v M' 0 0 := by
      intro P2 ss2 M2 c8 hst hX2 hD2 hK2 hE2 hm2 hf2 hF2 hsb h518 hin2 oo2 H
      obtain ⟨e2, v2, M3, he, H2, H⟩ := goo_173 hX2.sq hbt hxt H
      have hM3' : STA L T (ageP P2 k) (wF M2 b 2 (zI M2 b 2 + 1)) ∧ MDW L (ageP P2 k) (wF M2 b 2 (zI M2 b 2 + 1)) n i s ∧ okK (ageP P2 k) ∧ FZ (gwF L) (gwW L) (gwO L) M2 (wF M2 b 2 (zI M2 b 2 + 1)) ∧ (∀ k, zI (wF M2 b 2 (zI M2 b 2 + 1)) 104 k = zI M2 104 k) ∧ ∀ j, oN (wF M2 b 2 (zI M2 b 2 + 1)) (L + 11) j = oN M2 (L + 11) j := by
        rw [ek]
        exact age_ok hX2 hD2 hK2 hm2 hin (by rw [oo2])
      obtain ⟨g1, g2, g3, g4, g5, g6⟩ := hM3'
      obtain ⟨P3, eP3⟩ : ∃ P3, P3 = ageP P2 k := ⟨_, rfl⟩
      obtain ⟨M4, eM4⟩ : ∃ M4, M4 = wF M2 b 2 (zI M2 b 2 + 1) := ⟨_, rfl⟩
      rw [← eP3] at g1 g2 g3 hst
      rw [← eM4] at g1 g2 g4 g5 g6 H2
      have lo3 : ∀ j, j < 157 → P3 j = P2 j := fun j hj => by rw [eP3]; exact up_ne (by omega)
      have hi3 : ∀ j, 518 ≤ j → P3 j = P2 j := fun j hj => by rw [eP3]; exact up_ne (by omega)
      have hD3 : okD P3 := hD2.sb lo3
      have hE3 : okE (B + 1) P3 := hE2.sb (lo3 0 (by decide)) (lo3 1 (by decide)) (fun j hj => hi3 j (by omega))
      have hf3 : WFl w ss2 M4 := hf2.same g5
      have oo4 : oN M4 (L + 11) i = b := (g6 i).trans oo2
      have hn4 := g2.now hin
      rw [oo4, ← ek] at hn4
      obtain ⟨t1, t2, t3, t4⟩ := g1.2.2.2.1
      have hgoe : goeP T (P, ss) k = (if P3 (158 + 6 * k) = golP P k then ((uPk P3 519 (P3 519 + 1), ss2), false) else if P3 (158 + 6 * k + 2) < 200 then ((P3, ss2), true) else ((uPk P3 520 (P3 520 + 1), ss2), false)) := by
        unfold goeP
        rw [hst]
      have k3 : k < (P3 157).toInt.toNat := by
        have := g2.2.2.2.1
        omega
      have hcell := (g3.2.2 k k3).1
      have hcr := g1.crd _ hcell
      have hlt60 := g3.2.1
      have gone : ∀ (Q : PK) (x17 x18 : Int32), (goeP T (P, ss) k) = ((Q, ss2), false) → (∀ j, j ≠ 519 → j ≠ 520 → Q j = P3 j) → Q 519 = x17 → Q 520 = x18 → v2 = none → M3 = wF (wI (wF (wF M4 L 17 x17) L 18 x18) (L + 8) (P3 (158 + 6 * k)).toNatClampNeg (rI M4 (L + 8) (P3 (158 + 6 * k)) - 1)) b 0 (-1) → ∃ (P6 : PK) (ss6 : List Int32) (s6 : List Nat) (M6 : Mem) (d5 d6 d7 d8 : Option Value), STA L T P6 M6 ∧ okD P6 ∧ okK P6 ∧ okE (B + 1) P6 ∧ MDW L P6 M6 n (i + 1) s6 ∧ WFl w ss6 M6 ∧ FZ (gwF L) (gwW L) (gwO L) M M6 ∧ (∀ r, wlkP T (r + 1) s.length (P, ss) = wlkP T r s6.length (P6, ss6)) ∧ (∀ j, j < 157 → P6 j = P j) ∧ P6 518 = P 518 ∧ (∀ c, c ∈ ss6 → c ∈ ss ∨ inC P c) ∧ Ev none (e1 + 1) 58 29 [some (.ref 104), some (.int ti), some (.int bf), some (.int nz), some (.int (iz + 1)), d5, d6, d7, d8] [] M6 v M' 0 0 := by
        intro Q x17 x18 hg hQ q17 q18 hv hM3
        rw [hcr] at hM3
        rw [ek] at hM3
        have hz := gon_ok (M' := M3) g1 hD3 g3 g2 hin hQ q17 q18 (by rw [oo4]; exact hM3)
        rw [← ek] at hz
        obtain ⟨z1, z2, z3, z4, z5, z6⟩ := hz
        have hQlo : ∀ j, j < 157 → leaP Q k j = P3 j := fun j hj => by
          unfold leaP
          rw [if_neg (by omega), if_neg (by omega), if_neg (by omega)]
          exact hQ j (by omega) (by omega)
        have q157 : Q 157 = P3 157 := hQ 157 (by decide) (by decide)
        have m1 : (P3 157 - 1).toInt = (P3 157).toInt - 1 := i32_m1 (by omega)
        have hQ518 : leaP Q k 518 = P3 518 := by
          unfold leaP
          rw [if_neg (by decide), if_neg (by rw [q157]; omega), if_neg (by rw [q157]; omega)]
          exact hQ 518 (by decide) (by decide)
        rw [hv] at H
        have H := goo_192 z1.sq hbt hxt H
        refine ⟨leaP Q k, ss2, s, M3, _, _, _, _, z1, hD3.sb hQlo, z3, (hE3.sb (P' := Q) (hQ 0 (by decide) (by decide)) (hQ 1 (by decide) (by decide)) (fun j hj => hQ j (by omega) (by omega))).lea (by rw [q157]; exact g3.1) (by rw [q157]; exact hlt60) (by omega), z2, hf3.same z5, (hF2.trans g4).trans z4, fun r => ?_, fun j hj => (hQlo j hj).trans ((lo3 j hj).trans (hsb j hj)), hQ518.trans ((hi3 518 (by decide)).trans h518), hin2, H⟩
        rw [← ek]
        show (if (goeP T (P, ss) k).2 = true then _ else wlkP T r k (leaP (goeP T (P, ss) k).1.1 k, (goeP T (P, ss) k).1.2)) = _
        rw [hg, if_neg (fun q => absurd (show false = true from q) (by decide))]
      rcases lvd_0 g1.sq hbt H2 with ⟨b1, _, _, b2, b3⟩ | ⟨b1, b2, _, _, b3, b4⟩ | ⟨b1, b2, b3, b4⟩
      · rw [g1.lw, hn4.1, t2, t3] at b3
        rw [hn4.1] at b1
        refine gone (uPk P3 519 (P3 519 + 1)) _ _ (by rw [hgoe, if_pos b1]) (fun j h1 h2 => up_ne h1) up_eq ?_ b2 b3
        rw [up_ne (by decide)]
        grind
      · rw [g1.lw, hn4.1, t2, t3] at b4
        rw [hn4.1] at b1
        rw [hn4.2.2.1] at b2
        refine gone (uPk P3 520 (P3 520 + 1)) _ _ (by rw [hgoe, if_neg b1, if_neg (fun q => by rw [Int32.lt_iff_toInt_lt] at q; have := Int32.le_iff_toInt_le.mp b2; omega)]) (fun j h1 h2 => up_ne h2) ?_ up_eq b3 b4
        rw [up_ne (by decide)]
        grind
      · rw [hn4.1] at b1
        rw [hn4.2.2.1] at b2
        subst b4
        have h200 : P3 (158 + 6 * k + 2) < 200 := by
          rw [Int32.lt_iff_toInt_lt]
          have : ¬ (200 : Int32).toInt ≤ (P3 (158 + 6 * k + 2)).toInt := fun q => b2 (Int32.le_iff_toInt_le.mpr q)
          omega
        have hg3 : goeP T (P, ss) k = ((P3, ss2), true) := by
          rw [hgoe, if_neg b1, if_pos h200]
        rw [b3] at H
        have H := goo_192 g1.sq hbt hxt H
        refine ⟨P3, ss2, s ++ [i], M3, _, _, _, _, g1, hD3, g3, hE3, g2.stay hin, hf3, hF2.trans g4, fun r => ?_, fun j hj => (lo3 j hj).trans (hsb j hj), (hi3 518 (by decide)).trans h518, hin2, H⟩
        have hlen : (s ++ [i]).length = k + 1 := by rw [List.length_append, ek]; rfl
        rw [← ek, hlen]
        show (if (goeP T (P, ss) k).2 = true then wlkP T r (k + 1) (goeP T (P, ss) k).1 else _) = _
        rw [hg3, if_pos rfl]
    rcases dir_rng (T := T) hD hK hks with hd | ⟨d0, d1, dto⟩
    · have hneg : dirP T P k < 0 := by rw [hd]; decide
      rcases goo_96 r2 hbt hxt H with ⟨_, H⟩ | ⟨q1, _⟩
      · refine tail P ss M1 _ ?_ hX1 hD hK (hE.more (by omega)) hm1 hf1 hF1 (fun _ _ => rfl) rfl (fun c hc => Or.inl hc) oo1 H
        unfold stpP
        rw [if_pos hneg]
      · exact absurd hd q1
    · have hnn : ¬ dirP T P k < 0 := fun q => by rw [i32_z] at q; omega
      rcases goo_96 r2 hbt hxt H with ⟨q1, _⟩ | ⟨_, _, _, _, e2, v2, M2, he, H2, H⟩
      · rw [q1] at d0
        exact absurd d0 (by decide)
      · have hh := (hK.2.2 k hks).1
        have hn1 := hm1.now hin
        rw [oo1, ← ek] at hn1
        rw [hX1.lw, hn1.1] at H2
        have hbs : rI (wI M1 (L + 8) (P (158 + 6 * k)).toNatClampNeg (rI M1 (L + 8) (P (158 + 6 * k)) - 1)) 108 (8 * P (158 + 6 * k) + dirP T P k) = besP P (P (158 + 6 * k)) (dirP T P k) := by
          have h1 := (hX1.1.2.2.2.2.1 _ hh).2.2 (dirP T P k) d0 d1
          rw [← h1]
          unfold rI
          exact rN_wI_ne (by omega)
        rw [hbs, hX1.crd _ hh] at H2
        rw [ek] at H2 dto d0 d1
        rw [← oo1] at H2
        obtain ⟨rfl, z1, z2, z3, z4⟩ := mov_ok hX1 hD hK hm1 hin d0 d1 dto H2
        rw [← ek] at z2 z4 dto d0 d1
        rw [oo1] at z2
        obtain ⟨_, _, e3, v3, M4, he3, H3, H⟩ := goo_147 z1 hbt hxt H
        obtain ⟨M3, eM3⟩ : ∃ M3, M3 = wI M2 (L + 8) (besP P (P (158 + 6 * k)) (dirP T P k)).toNatClampNeg (rI M2 (L + 8) (besP P (P (158 + 6 * k)) (dirP T P k)) + 1) := ⟨_, rfl⟩
        rw [z3, z2, ← eM3] at H3
        obtain ⟨y1, y2, y3, y4, y5, y6⟩ := z4 M3 eM3
        have mo : ∀ j, (j < 157 ∨ 518 ≤ j) → movP P k (dirP T P k) j = P j := fun j hj => by
          unfold movP
          rw [up_ne (by omega), up_ne (by omega), up_ne (by omega)]
        have hDm : okD (movP P k (dirP T P k)) := hD.sb (fun j hj => mo j (Or.inl hj))
        have hEm : okE B (movP P k (dirP T P k)) := hE.sb (mo 0 (by omega)) (mo 1 (by omega)) (fun j hj => mo j (by omega))
        have hcm : inC (movP P k (dirP T P k)) (besP P (P (158 + 6 * k)) (dirP T P k)) := (inC.eq (mo 0 (by omega)) (mo 1 (by omega))).mpr dto
        obtain ⟨rfl, x1, x2, x3, x4, x5, x6, x7, x8⟩ := trw_ok y1 hDm y3 hEm hB y2 hcm H3
        have hf3 : WFl w ss M3 := hf1.same y5
        refine tail (trdP (T 0) (movP P k (dirP T P k)) (besP P (P (158 + 6 * k)) (dirP T P k))) (besP P (P (158 + 6 * k)) (dirP T P k) :: ss) M4 _ (stp_alt (p := (P, ss)) (by omega) hnn) x1 (hDm.sb trd_sb) x3 x4 x2 (hf3.cons x7 x6) ((hF1.trans y4).trans x5) (fun j hj => (trd_sb j hj).trans (mo j (Or.inl hj))) ((trd_lo (by decide)).trans (mo 518 (by omega))) (fun c hc => ?_) ((x8 i).trans ((y6 i).trans oo1)) H
        rcases List.mem_cons.mp hc with q | q
        · exact Or.inr (by rw [q]; exact dto)
        · exact Or.inl q
theorem wlk_l : ∀ (r i : Nat) (iz : Int32) (B : Nat) (P : PK) (ss : List Int32) (s : List Nat) (M : Mem) (c5 c6 c7 c8 : Option Value), STA L T P M → okD P → okK P → okE B P → B + r ≤ 100000000 → MDW L P M n i s → i + r = n → WFl w ss M → iz.toInt = (i : Int) → Ev none e 58 29 [some (.ref 104), some (.int ti), some (.int bf), some (.int nz), some (.int iz), c5, c6, c7, c8] [] M v M' 0 0 → ∃ (P6 : PK) (ss6 : List Int32) (M6 : Mem) (d4 d5 d6 d7 d8 : Option Value), wlkP T r s.length (P, ss) = (P6, ss6) ∧ STA L T P6 M6 ∧ okD P6 ∧ okK P6 ∧ okE (B + r) P6 ∧ LST L P6 M6 ∧ WFl w ss6 M6 ∧ FZ (gwF L) (gwW L) (gwO L) M M6 ∧ (∀ j, j < 157 → P6 j = P j) ∧ P6 518 = P 518 ∧ (∀ c, c ∈ ss6 → c ∈ ss ∨ inC P c) ∧ Ev none e 58 202 [some (.ref 104), some (.int ti), some (.int bf), some (.int nz), d4, d5, d6, d7, d8] [] M6 v M' 0 0 := by
  intro r
  induction r with
  | zero =>
    intro i iz B P ss s M c5 c6 c7 c8 hX hD hK hE hB hm hir hf hi H
    have hnI : (nI n).toInt = (n : Int) := nI_toInt (by have := hm.2.1; omega)
    rcases goo_29 hX.sq H with ⟨_, e1, v1, M1, rfl, H1, H⟩ | ⟨a1, _⟩
    · have hin : i = n := by omega
      rw [hin] at hm
      obtain ⟨rfl, s2, s3, s4, s5⟩ := swp_ok hX hD hK hm H1
      exact ⟨P, ss, M1, _, _, _, _, _, rfl, s2, hD, hK, hE, s3, hf.same s5, s4, fun _ _ => rfl, rfl, fun c hc => Or.inl hc, H⟩
    · exact absurd (Int32.le_iff_toInt_le.mpr (by rw [hX.lw, hm.1]; omega)) a1
  | succ r ih =>
    intro i iz B P ss s M c5 c6 c7 c8 hX hD hK hE hB hm hir hf hi H
    obtain ⟨P6, ss6, s6, M6, d5, d6, d7, d8, o1, o2, o3, o4, o5, o6, o7, o8, o9, o10, o11, H⟩ := onw_ok hX hD hK hE (by omega) hm (by omega) hf hi H
    obtain ⟨P7, ss7, M7, e4, e5, e6, e7, e8, p1, p2, p3, p4, p5, p6, p7, p8, p9, p10, p11, H⟩ := ih (i + 1) (iz + 1) (B + 1) P6 ss6 s6 M6 d5 d6 d7 d8 o1 o2 o3 o4 (by omega) o5 (by omega) o6 (by rw [i32_p1 (by have := hm.2.1; omega)]; omega) H
    refine ⟨P7, ss7, M7, e4, e5, e6, e7, e8, (o8 r).trans p1, p2, p3, p4, by rw [show B + (r + 1) = B + 1 + r from by omega]; exact p5, p6, p7, o7.trans p8, fun j hj => (p9 j hj).trans (o9 j hj), p10.trans o10, fun c hc => ?_, H⟩
    rcases p11 c hc with q | q
    · exact o11 c q
    · exact Or.inr ((inC.eq (o9 0 (by decide)) (o9 1 (by decide))).mp q)
end ONE
/-! THE CLASS'S go, endWeek, wornCells, enter -/
noncomputable def gofP (T : TS) (w : Int32) : Nat → PS → PS
  | 0, p => p
  | n + 1, p => if w ∈ p.2 then p else gofP T w n (tckP T p)
section GOO
variable {e L : Nat} {T : TS} {g : TQ} {P P' Q : PK} {M M1 M' : Mem} {v : Option Value} {c w ti bf nz : Int32} {n i k B : Nat} {s : List Nat} {ss : List Int32}
theorem beg_keep : ∀ (n k : Nat) (P : PK), 0 ≤ (P 157).toInt → (P 157).toInt ≤ 60 → (∀ j, (j < 157 ∨ 522 ≤ j ∨ (518 ≤ j ∧ j ≤ 520)) → begP n k P j = P j) := by
  intro n
  induction n with
  | zero => intro k P _ _ j _; rfl
  | succ n ih =>
    intro k P h0 h1 j hj
    have t60 : (60 : Int32).toInt = 60 := rfl
    unfold begP
    split
    · split
      · rename_i hd h60
        rw [ih (k + 1) (uPk P 521 (P 521 + 1)) (by rw [up_ne (by decide)]; exact h0) (by rw [up_ne (by decide)]; exact h1) j hj]
        exact up_ne (by omega)
      · rename_i hd h60
        have hlt : (P 157).toInt ≤ 59 := by
          have : (P 157).toInt ≠ 60 := fun q => h60 (Int32.toInt_inj.mp (q.trans t60.symm))
          omega
        have e157 : newP P k 157 = P 157 + 1 := by unfold newP; exact up_eq
        have ei : (P 157 + 1).toInt = (P 157).toInt + 1 := i32_p1 (by omega)
        rw [ih (k + 1) (newP P k) (by rw [e157, ei]; omega) (by rw [e157, ei]; omega) j hj]
        unfold newP
        rw [up_ne (by omega), up_ne (by omega), up_ne (by omega), up_ne (by omega), up_ne (by omega), up_ne (by omega)]
    · exact ih (k + 1) P h0 h1 j hj
theorem MDW.mk0 (hl : LST L P M) (hK : okK P) : MDW L P M (P 157).toInt.toNat 0 [] := by
  have h0 := hK.1
  have h60 := hK.2.1
  have hn : nI (P 157).toInt.toNat = P 157 := Int32.toInt_inj.mp (by rw [nI_toInt (by omega)]; omega)
  refine ⟨by rw [hn]; exact hl.1, by omega, Nat.zero_le _, (by show _ = ((0 : Nat) : Int) + _; omega), fun t j ht => (by cases ht), fun j _ h2 => ?_, fun j h => absurd h (Nat.not_lt_zero j), fun t t' j j' _ ht => (by cases ht)⟩
  show WFq _ P (0 + (j - 0)) M
  rw [Nat.sub_zero, Nat.zero_add]
  exact hl.2 j h2
theorem tik_ok (h : STA L T P M) (hD : okD P) (hK : okK P) (hl : LST L P M) (h3 : M' = wF M L 16 (zI M L 16 + 1)) : STA L T (uPk P 518 (P 518 + 1)) M' ∧ okK (uPk P 518 (P 518 + 1)) ∧ LST L (uPk P 518 (P 518 + 1)) M' ∧ FZ (gwF L) (gwW L) (gwO L) M M' ∧ ∀ k, zI M' 104 k = zI M 104 k := by
  have hS := h.sq
  have hL := h.ld
  have hWK := h.2.2.2.2.2.1
  have hld := ld_cases hL
  have hF3 : FZ (fun a k => a = L ∧ k = 16) noO noO M M' := by rw [h3]; exact FZ.wF (F := fun a k => a = L ∧ k = 16) ⟨rfl, rfl⟩
  have hS3 : SQ M' := by rw [h3]; exact hS.kf
  have hgo : FZ (gwF L) (gwW L) (gwO L) M M' := hF3.more (fun a k q => Or.inl ⟨q.1, by omega⟩) (fun a q => q.elim) (fun _ q => q.elim)
  have Qo : ∀ j, j ≠ 518 → uPk P 518 (P 518 + 1) j = P j := fun j hj => up_ne hj
  have hK2 := hK.2.1
  obtain ⟨t1, t2, t3, t4⟩ := h.2.2.2.1
  have f1 : ∀ k, k ≠ 16 → zI M' L k = zI M L k := fun k hk => hF3.fi (fun q => hk q.2)
  refine ⟨h.mv hD hS3 hgo (h.cel.fz hF3 (fun f hf q => q) (Qo 0 (by decide)) (Qo 1 (by decide)) (fun j hj => Qo j (by omega))) (fun j hj => Qo j (by omega)) (fun c hc => ?_) (fun c hc => ?_) (h.2.1.mv (Qo 0 (by decide)) (Qo 1 (by decide)) (fun j hj => Qo j (by omega)) (fun b' j _ => hF3.rn (fun q => q))) ⟨?_, ?_, ?_, ?_⟩ (hWK.fz hF3 (fun q => q)), ⟨?_, ?_, fun t ht => ?_⟩, ⟨?_, fun t ht => ?_⟩, hgo, fun k => hF3.fi (by omega)⟩
  · have hc2 := (inC.eq (Qo 0 (by decide)) (Qo 1 (by decide))).mp hc
    have hsame : ∀ f, cE (uPk P 518 (P 518 + 1)) f c = cE P f c := fun f => cE_lo (by decide)
    unfold nnC
    rw [hsame, hsame, hsame, hsame]
    exact h.nn c hc2
  · have hc2 := (inC.eq (Qo 0 (by decide)) (Qo 1 (by decide))).mp hc
    have hr : rI M' (L + 8) c = rI M (L + 8) c := hF3.rn (fun q => q)
    rw [hr, h.crd c hc2, Qo 157 (by decide)]
    exact (crd_congr _ (fun t ht => Qo _ (by omega))).symm
  · rw [h3, fI_wF_eq hS.1 hL qi_8_16, t1]; exact up_eq.symm
  · rw [f1 17 (by decide), t2]; exact (Qo _ (by decide)).symm
  · rw [f1 18 (by decide), t3]; exact (Qo _ (by decide)).symm
  · rw [f1 19 (by decide), t4]; exact (Qo _ (by decide)).symm
  · rw [Qo 157 (by decide)]; exact hK.1
  · rw [Qo 157 (by decide)]; exact hK.2.1
  · rw [Qo 157 (by decide)] at ht
    obtain ⟨c1, c2, c3, c4⟩ := hK.2.2 t ht
    rw [inC.eq (Qo 0 (by decide)) (Qo 1 (by decide)), Qo _ (by omega), Qo _ (by omega), Qo 12 (by decide), Qo _ (by omega)]
    exact ⟨c1, c2, c3, c4⟩
  · rw [f1 15 (by decide), hl.1]; exact (Qo _ (by decide)).symm
  · rw [Qo 157 (by decide)] at ht
    rw [hF3.on (fun q => q)]
    have hb := hWK.2 t (by omega)
    exact (hl.2 t ht).eq (fun f _ => hF3.fi (by omega)) (fun j hj => Qo _ (by omega))
theorem go_l : ∀ (r k : Nat) (nz : Int32) (B : Nat) (P : PK) (ss : List Int32) (M : Mem) (c4 c5 c6 c7 c8 : Option Value), STA L T P M → okD P → okK P → okE B P → B + 60 * r ≤ 100000000 → LST L P M → WFl w ss M → nz.toInt = (k : Int) → ti.toInt = (k : Int) + (r : Int) → Ev none e 58 10 [some (.ref 104), some (.int ti), some (.int bf), some (.int nz), c4, c5, c6, c7, c8] [] M v M' 0 0 → ∃ (P6 : PK) (ss6 : List Int32), gofP T w r (P, ss) = (P6, ss6) ∧ v = some (.int (P6 519 - bf)) ∧ STA L T P6 M' ∧ okD P6 ∧ okK P6 ∧ okE (B + 60 * r) P6 ∧ LST L P6 M' ∧ WFl w ss6 M' ∧ FZ (gwF L) (gwW L) (gwO L) M M' ∧ (∀ j, j < 157 → P6 j = P j) ∧ ∀ c, c ∈ ss6 → c ∈ ss ∨ inC P c := by
  intro r
  induction r with
  | zero =>
    intro k nz B P ss M c4 c5 c6 c7 c8 hX hD hK hE hB hl hf hn ht H
    rcases goo_10 hX.sq H with ⟨_, h1, h2⟩ | ⟨a1, _⟩ | ⟨a1, _⟩
    · subst h2
      rw [hX.lw, hX.2.2.2.1.2.1] at h1
      exact ⟨P, ss, rfl, h1, hX, hD, hK, hE, hl, hf, FZ.refl _, fun _ _ => rfl, fun c hc => Or.inl hc⟩
    all_goals exact absurd (Int32.le_iff_toInt_le.mpr (by omega)) a1
  | succ r ih =>
    intro k nz B P ss M c4 c5 c6 c7 c8 hX hD hK hE hB hl hf hn ht H
    have htl := (i32_lt ti).2
    rcases goo_10 hX.sq H with ⟨a1, _⟩ | ⟨_, a2, e1, v1, M1, rfl, H1, H⟩ | ⟨_, a2, h1, h2⟩
    · have := Int32.le_iff_toInt_le.mp a1
      omega
    · rw [hf.2, bI_0] at a2
      have hnw : ¬ w ∈ ss := of_decide_eq_false a2
      have h12 := hD.2.2.1
      obtain ⟨rfl, b2, b3, b4, b5, b6⟩ := beg_l (P 12).toInt.toNat 0 0 none none P M hX hD hK hl rfl (by omega) (bgn_0 hX.sq H1)
      have bk := beg_keep (P 12).toInt.toNat 0 P hK.1 hK.2.1
      obtain ⟨P1, eP1⟩ : ∃ P1, P1 = bg0P P := ⟨_, rfl⟩
      have eb : begP (P 12).toInt.toNat 0 P = P1 := eP1.symm
      rw [eb] at b2 b3 b4 bk
      have hD1 : okD P1 := hD.sb (fun j hj => bk j (Or.inl hj))
      have hE1 : okE B P1 := hE.sb (bk 0 (by omega)) (bk 1 (by omega)) (fun j hj => bk j (by omega))
      have H := goo_26 b2.sq H
      have hK1 := b3.1
      have hK2 := b3.2.1
      obtain ⟨P6, ss6, M6, d4, d5, d6, d7, d8, p1, p2, p3, p4, p5, p6, p7, p8, p9, p10, p11, H⟩ := wlk_l (P1 157).toInt.toNat 0 0 B P1 ss [] M1 _ _ _ _ b2 hD1 b3 hE1 (by omega) (MDW.mk0 b4 b3) (by omega) (hf.same b6) rfl H
      have H := goo_202 p2.sq H
      rw [p2.lw] at H
      obtain ⟨t1, t2, t3, t4, t5⟩ := tik_ok p2 p3 p4 p6 rfl
      have ht1 : tckP T (P, ss) = (uPk P6 518 (P6 518 + 1), ss6) := by
        have p1 : wlkP T (P1 157).toInt.toNat 0 (P1, ss) = (P6, ss6) := p1
        unfold tckP
        dsimp only
        rw [← eP1, p1]
      have hk1 : (nz + 1).toInt = ((k + 1 : Nat) : Int) := by
        rw [i32_p1 (by omega)]
        omega
      obtain ⟨P7, ss7, q1, q2, q3, q4, q5, q6, q7, q8, q9, q10, q11⟩ := ih (k + 1) (nz + 1) (B + 60) (uPk P6 518 (P6 518 + 1)) ss6 _ _ _ _ _ _ t1 (p3.sb (fun j hj => up_ne (by omega))) t2 ((p5.more (by omega)).sb (up_ne (by decide)) (up_ne (by decide)) (fun j hj => up_ne (by omega))) (by omega) t3 (p7.same t5) hk1 (by omega) H
      have hlow : ∀ j, j < 157 → uPk P6 518 (P6 518 + 1) j = P j := fun j hj => (up_ne (by omega)).trans ((p9 j hj).trans (bk j (Or.inl hj)))
      refine ⟨P7, ss7, ?_, q2, q3, q4, q5, by rw [show B + 60 * (r + 1) = B + 60 + 60 * r from by omega]; exact q6, q7, q8, ((b5.trans p8).trans t4).trans q9, fun j hj => (q10 j hj).trans (hlow j hj), fun c hc => ?_⟩
      · show (if w ∈ ss then _ else gofP T w r (tckP T (P, ss))) = _
        rw [if_neg hnw, ht1]
        exact q1
      · rcases q11 c hc with h | h
        · rcases p11 c h with h | h
          · exact Or.inl h
          · exact Or.inr ((inC.eq (bk 0 (by omega)) (bk 1 (by omega))).mp h)
        · exact Or.inr ((inC.eq (hlow 0 (by decide)) (hlow 1 (by decide))).mp h)
    · subst h2
      rw [hf.2, bI_0, Bool.not_eq_false] at a2
      have hw : w ∈ ss := of_decide_eq_true a2
      rw [hX.lw, hX.2.2.2.1.2.1] at h1
      refine ⟨P, ss, ?_, h1, hX, hD, hK, hE.more (by omega), hl, hf, FZ.refl _, fun _ _ => rfl, fun c hc => Or.inl hc⟩
      show (if w ∈ ss then _ else _) = _
      rw [if_pos hw]
theorem gow_ok (hX : STA L T P M) (hD : okD P) (hK : okK P) (hE : okE B P) {r : Nat} (hB : B + 60 * r ≤ 100000000) (hl : LST L P M) (hf : WFl w ss M) (ht : ti.toInt = (r : Int)) (H : Ev none e 58 0 [some (.ref 104), some (.int ti), none, none, none, none, none, none, none] [] M v M' 0 0) : ∃ (P6 : PK) (ss6 : List Int32), gofP T w r (P, ss) = (P6, ss6) ∧ v = some (.int (P6 519 - P 519)) ∧ STA L T P6 M' ∧ okD P6 ∧ okK P6 ∧ okE (B + 60 * r) P6 ∧ LST L P6 M' ∧ WFl w ss6 M' ∧ FZ (gwF L) (gwW L) (gwO L) M M' ∧ (∀ j, j < 157 → P6 j = P j) ∧ ∀ c, c ∈ ss6 → c ∈ ss ∨ inC P c := by
  have H := goo_0 hX.sq H
  rw [hX.lw, hX.2.2.2.1.2.1] at H
  exact go_l r 0 0 B P ss M _ _ _ _ _ hX hD hK hE hB hl hf rfl (by omega) H
/-- nobody watched: all TICKS are gone -/
theorem gof_live (hw : w.toInt < 0) : ∀ (n : Nat) (p : PS), (∀ c, c ∈ (tksP T n p).2 → 0 ≤ c.toInt) → (∀ m q, (∀ c, c ∈ (tksP T m q).2 → 0 ≤ c.toInt) → ∀ c, c ∈ q.2 → 0 ≤ c.toInt) → gofP T w n p = tksP T n p := by
  intro n
  induction n with
  | zero => intro p _ _; rfl
  | succ n ih =>
    intro p h hm
    have h1 := hm (n + 1) p h
    unfold gofP tksP
    rw [if_neg (fun q => by have := h1 w q; omega)]
    exact ih (tckP T p) h hm
end GOO
/-! THE CLASS'S endWeek, wornCells, enter -/
section WEK
variable {e L : Nat} {T : TS} {g : TQ} {P P' Q : PK} {M M1 M' : Mem} {v : Option Value} {c c' : Int32} {n i k B f : Nat} {ss : List Int32}
theorem dy_rng {q : TQ} (hw : LW q) : 0 ≤ (dyQ q).toInt ∧ (dyQ q).toInt ≤ 999 := by
  unfold dyQ
  rcases tv_rng (fun l hl => (hw l hl).1) 4 10 with e | ⟨l, hl, e1, e2⟩
  · rw [e]; decide
  · rw [e2]
    have h := (hw l hl).1
    exact ⟨h.1, h.2.1⟩
theorem max0_rng {x y : Int32} (hx : 0 ≤ x.toInt) (hy : 0 ≤ y.toInt) : 0 ≤ (max0 (x - y)).toInt ∧ (max0 (x - y)).toInt ≤ x.toInt := by
  have h1 := (i32_lt x).2
  have h2 := (i32_lt y).2
  have e : (x - y).toInt = x.toInt - y.toInt := i32_sub (by omega) (by omega)
  unfold max0
  by_cases h : x - y < 0
  · rw [if_pos h]
    exact ⟨by decide, by show (0 : Int32).toInt ≤ _; exact hx⟩
  · rw [if_neg h, e]
    rw [i32_z, e] at h
    omega
theorem wk1_E (hc : 0 ≤ c.toInt) (hc' : 0 ≤ c'.toInt) (hf : f < 7) : cE (wk1P g P c) f c' = if f = 4 ∧ c' = c then max0 (cE P 4 c - dyQ g) else if f = 3 ∧ c' = c then max0 (cE P 3 c - fstL g P 1 c 10 g.2) else cE P f c' := by
  unfold wk1P
  rw [cE_up (by decide) hf hc hc', cE_up (by decide) hf hc hc']
theorem wk1_lo {j : Nat} (h : j < 522) : wk1P g P c j = P j := by
  have h1 : ∀ f, j ≠ cX f c := fun f => by have := cX_ge (f := f) (c := c); omega
  unfold wk1P
  rw [up_ne (h1 4), up_ne (h1 3)]
theorem okE.wk1 (hw : LW g) (h : okE B P) (hc : inC P c) : okE B (wk1P g P c) := fun c' hc' => by
  have hc2 : inC P c' := (inC.eq (wk1_lo (by decide)) (wk1_lo (by decide))).mp hc'
  obtain ⟨a1, a2, a3, a4, a5, a6⟩ := h c' hc2
  obtain ⟨_, _, b3, b4, _, _⟩ := h c hc
  have fr := fst_rng (g := g) (P := P) (k := 1) (c := c) (d := 10) (by decide) g.2 (fun l hl => (hw l hl).1)
  have m3 := max0_rng b3.1 fr.1
  have m4 := max0_rng b4.1 (dy_rng hw).1
  unfold okC1
  have ee : ∀ f, f < 7 → f ≠ 3 → f ≠ 4 → cE (wk1P g P c) f c' = cE P f c' := fun f hf h3 h4 => by
    rw [wk1_E hc.1 hc2.1 hf, if_neg (fun q => h4 q.1), if_neg (fun q => h3 q.1)]
  rw [ee 0 (by decide) (by decide) (by decide), ee 2 (by decide) (by decide) (by decide), ee 5 (by decide) (by decide) (by decide), ee 6 (by decide) (by decide) (by decide)]
  refine ⟨a1, a2, ?_, ?_, a5, a6⟩
  · rw [wk1_E hc.1 hc2.1 (by decide), if_neg (fun q => absurd q.1 (by decide))]
    split
    · omega
    · exact a3
  · rw [wk1_E hc.1 hc2.1 (by decide), if_neg (show ¬ (4 = 3 ∧ c' = c) from fun q => absurd q.1 (by decide))]
    split
    · omega
    · exact a4
theorem mx_0 (x : Int32) : (if 0 < x then x else 0) = max0 x := by
  unfold max0
  by_cases h : 0 < x
  · rw [if_pos h, if_neg (fun q => by rw [Int32.lt_iff_toInt_lt] at h q; omega)]
  · rw [if_neg h]
    by_cases h2 : x < 0
    · rw [if_pos h2]
    · rw [if_neg h2]
      exact Int32.toInt_inj.mp (by rw [Int32.lt_iff_toInt_lt] at h h2; have e : (0 : Int32).toInt = 0 := rfl; omega)
theorem g6_ok (hw : wh4 P) (h0 : zI M L 0 = P 0) (h1 : zI M L 1 = P 1) : (G_6 M L).toInt = (clsP P : Int) := by
  obtain ⟨e1, e2, _⟩ := cls_int hw
  unfold G_6
  rw [h0, h1, i32_mul (by omega) (by omega), e1]
def ewW (L a : Nat) : Prop := a = L + 4 ∨ a = L + 5
theorem ewk_l (M0 : Mem) : ∀ (n : Nat) (P : PK) (M : Mem) (c : Int32) (c2 : Option Value), CTX L T P M → okE B P → (P 157).toInt ≤ 60 → zI M L 0 = P 0 → zI M L 1 = P 1 → FZ noF (ewW L) noO M0 M → 0 ≤ c.toInt → c.toInt + (n : Int) = (clsP P : Int) → Ev none e 63 2 [some (.ref 104), some (.int c), c2] [] M v M' 0 0 → ∃ M1, CTX L T (wkaP (T 0) n c P) M1 ∧ okE B (wkaP (T 0) n c P) ∧ FZ noF (ewW L) noO M0 M1 ∧ (∀ j, j < 522 → wkaP (T 0) n c P j = P j) ∧ v = none ∧ M' = X_55 (wA M1 (L + 6) 0) := by
  intro n
  induction n with
  | zero =>
    intro P M c c2 hX hE hk60 h0 h1 hF hc hn H
    have hg := g6_ok (M := M) hX.2.1 h0 h1
    rcases ewk_2 hX.1.1 H with ⟨_, r1, r2⟩ | ⟨a1, _⟩
    · rw [hX.1.2.1] at r2
      exact ⟨M, hX, hE, hF, fun _ _ => rfl, r1, r2⟩
    · exact absurd (Int32.le_iff_toInt_le.mpr (by rw [hX.1.2.1]; omega)) a1
  | succ n ih =>
    intro P M c c2 hX hE hk60 h0 h1 hF hc hn H
    have hS := hX.1.1
    have hL := hX.1.2.1
    have hT := hX.1.2.2.1
    have hld := ld_cases hT
    have hw := hX.2.1
    have hg := g6_ok (M := M) hw h0 h1
    obtain ⟨_, c256, _⟩ := cls_int hw
    have hcin : inC P c := ⟨hc, by omega⟩
    rcases ewk_2 hS H with ⟨a1, _⟩ | ⟨_, e1, v1, M1, rfl, H1, H⟩
    · rw [hL] at a1
      have := Int32.le_iff_toInt_le.mp a1
      omega
    · obtain ⟨rfl, rfl⟩ := fnb_ok hX hcin H1
      obtain ⟨_, _, _, _, H⟩ := ewk_21 hS H
      have r3 : rI M1 (L + 4) c = cE P 3 c := hX.1.2.2.2.2.2.2.at hcin (f := 3) (by decide)
      have r4 : rI M1 (L + 5) c = cE P 4 c := hX.1.2.2.2.2.2.2.at hcin (f := 4) (by decide)
      rw [hL, r3, r4, hX.1.2.2.2.2.2.1, mx_0, mx_0] at H
      have l3 := LCel.up (x := max0 (cE P 3 c - fstL (T 0) P 1 c 10 (T 0).2)) hS hT hX.1.2.2.2.2.2.2 hw hcin (f := 3) (by decide)
      have x0 : uPk P (cX 3 c) (max0 (cE P 3 c - fstL (T 0) P 1 c 10 (T 0).2)) 0 = P 0 := up_ne (by have := cX_ge (f := 3) (c := c); omega)
      have x1 : uPk P (cX 3 c) (max0 (cE P 3 c - fstL (T 0) P 1 c 10 (T 0).2)) 1 = P 1 := up_ne (by have := cX_ge (f := 3) (c := c); omega)
      have l4 := LCel.up (x := max0 (cE P 4 c - dyQ (T 0))) hS.ki hT l3 (hw.eq x0 x1) ((inC.eq x0 x1).mpr hcin) (f := 4) (by decide)
      have hE1 : okE B (wk1P (T 0) P c) := hE.wk1 hX.2.2.2.2.2.1.2 hcin
      have lo : ∀ j, j < 522 → wk1P (T 0) P c j = P j := fun j hj => wk1_lo hj
      have hF1 : FZ noF (ewW L) noO M1 (wI (wI M1 (L + 4) c.toNatClampNeg (max0 (cE P 3 c - fstL (T 0) P 1 c 10 (T 0).2))) (L + 5) c.toNatClampNeg (max0 (cE P 4 c - dyQ (T 0)))) := (FZ.wI (F := noF) (W := ewW L) (O := noO) (Or.inl rfl)).trans (FZ.wI (Or.inr rfl))
      have hX1 : CTX L T (wk1P (T 0) P c) (wI (wI M1 (L + 4) c.toNatClampNeg (max0 (cE P 3 c - fstL (T 0) P 1 c 10 (T 0).2))) (L + 5) c.toNatClampNeg (max0 (cE P 4 c - dyQ (T 0)))) := by
        refine hX.mv hS.ki.ki (hF1.more (G := gwF L) (V := gwW L) (U := gwO L) (fun _ _ q => q.elim) (fun a q => Or.inl (by rcases q with q | q <;> omega)) (fun _ q => q.elim)) (okF.go hT) l4 (lo 0 (by decide)) (lo 1 (by decide)) hE1.nn (fun c' hc' => ?_)
        have hc2 := (inC.eq (lo 0 (by decide)) (lo 1 (by decide))).mp hc'
        have hr : ∀ x y : Int32, rI (wI (wI M1 (L + 4) c.toNatClampNeg x) (L + 5) c.toNatClampNeg y) (L + 8) c' = rI M1 (L + 8) c' := fun x y => by
          unfold rI
          rw [rN_wI_ne (by omega), rN_wI_ne (by omega)]
        rw [hr, lo 157 (by decide), hX.2.2.2.2.2.2.2 c' hc2]
        exact (crd_congr _ (fun t ht => lo _ (by omega))).symm
      obtain ⟨M2, q1, q2, q3, q4, q5, q6⟩ := ih (wk1P (T 0) P c) _ (c + 1) _ hX1 hE1 (by rw [lo 157 (by decide)]; exact hk60) (by rw [fI_wI, fI_wI, lo 0 (by decide)]; exact h0) (by rw [fI_wI, fI_wI, lo 1 (by decide)]; exact h1) (hF.trans hF1) (by rw [i32_p1 (by omega)]; omega) (by rw [i32_p1 (by omega), cls_eq (lo 0 (by decide)) (lo 1 (by decide))]; omega) H
      exact ⟨M2, q1, q2, q3, fun j hj => (q4 j hj).trans (lo j hj), q5, q6⟩
theorem zer_E (hf : f < 7) : ∀ (n : Nat) (c : Int32) (P : PK), 0 ≤ c.toInt → c.toInt + (n : Int) ≤ 256 → (∀ f' c', f' < 7 → 0 ≤ c'.toInt → cE (zerP f n c P) f' c' = if f' = f ∧ c.toInt ≤ c'.toInt ∧ c'.toInt < c.toInt + (n : Int) then 0 else cE P f' c') ∧ ∀ j, j < 522 → zerP f n c P j = P j := by
  intro n
  induction n with
  | zero =>
    intro c P h0 h1
    refine ⟨fun f' c' hf' hc' => ?_, fun j _ => rfl⟩
    rw [if_neg (by omega)]
    rfl
  | succ n ih =>
    intro c P h0 h1
    have e1 : (c + 1).toInt = c.toInt + 1 := i32_p1 (by omega)
    obtain ⟨q1, q2⟩ := ih (c + 1) (uPk P (cX f c) 0) (by omega) (by omega)
    refine ⟨fun f' c' hf' hc' => ?_, fun j hj => (q2 j hj).trans (up_ne (by have := cX_ge (f := f) (c := c); omega))⟩
    show cE (zerP f n (c + 1) (uPk P (cX f c) 0)) f' c' = _
    rw [q1 f' c' hf' hc', cE_up hf hf' h0 hc', e1]
    by_cases h2 : f' = f ∧ c' = c
    · obtain ⟨rfl, rfl⟩ := h2
      rw [if_neg (by omega), if_pos ⟨rfl, rfl⟩, if_pos ⟨rfl, by omega, by omega⟩]
    · rw [if_neg h2]
      by_cases h3 : f' = f ∧ c.toInt + 1 ≤ c'.toInt ∧ c'.toInt < c.toInt + 1 + (n : Int)
      · rw [if_pos h3, if_pos ⟨h3.1, by omega, by omega⟩]
      · rw [if_neg h3, if_neg (fun q => h3 ⟨q.1, by
          have : c'.toInt ≠ c.toInt := fun r => h2 ⟨q.1, Int32.toInt_inj.mp r⟩
          omega, by omega⟩)]
theorem cE_nat (hw : wh4 P) {k : Nat} (hk : k < clsP P) (Q : PK) (f : Nat) : Q (522 + 7 * k + f) = cE Q f (nI k) := by
  obtain ⟨h1, h2⟩ := inC.nat hw hk
  unfold cE cX
  rw [h2]
theorem vc_new (hr : ∀ j, j < 1536 → rN M 128 j = -1) (hw : wh4 P) : VC T P M := fun h c hh hc => Or.inl (hr _ (by
  obtain ⟨_, c256, _⟩ := cls_int hw
  have := hc.2
  unfold ixA
  omega))
theorem ewk_ok (h : STA L T P M) (hD : okD P) (hK : okK P) (hE : okE B P) (hl : LST L P M) (H : Ev none e 63 0 [some (.ref 104), none, none] [] M v M' 0 0) : v = none ∧ STA L T (wekP (T 0) P) M' ∧ okD (wekP (T 0) P) ∧ okK (wekP (T 0) P) ∧ okE B (wekP (T 0) P) ∧ LST L (wekP (T 0) P) M' ∧ FZ (gwF L) (gwW L) (gwO L) M M' ∧ (∀ k, zI M' 104 k = zI M 104 k) ∧ ∀ j, j < 522 → wekP (T 0) P j = P j := by
  have hL := h.ld
  have hld := ld_cases hL
  have hw := h.wh
  obtain ⟨_, c256, _⟩ := cls_int hw
  have z0 : (0 : Int32).toInt = 0 := rfl
  obtain ⟨M1, q1, q2, q3, q4, q5, q6⟩ := ewk_l M (clsP P) P M 0 none h.1 hE hK.2.1 h.2.2.1.1 h.2.2.1.2.1 (FZ.refl _) (by decide) (by omega) (ewk_0 h.sq H)
  obtain ⟨P1, eP1⟩ : ∃ P1, P1 = wkaP (T 0) (clsP P) 0 P := ⟨_, rfl⟩
  rw [← eP1] at q1 q2 q4
  obtain ⟨zE, zL⟩ := zer_E (f := 5) (by decide) (clsP P) 0 P1 (by decide) (by omega)
  obtain ⟨P2, eP2⟩ : ∃ P2, P2 = wekP (T 0) P := ⟨_, rfl⟩
  have eP2' : zerP 5 (clsP P) 0 P1 = P2 := by rw [eP2, eP1]; rfl
  rw [eP2'] at zE zL
  rw [← eP2]
  have lo : ∀ j, j < 522 → P2 j = P j := fun j hj => (zL j hj).trans (q4 j hj)
  have hcl : clsP P1 = clsP P := cls_eq (q4 0 (by decide)) (q4 1 (by decide))
  have hcl2 : clsP P2 = clsP P := cls_eq (lo 0 (by decide)) (lo 1 (by decide))
  have hM' : M' = wA (wA M1 (L + 6) 0) 128 (-1) := q6
  have hS1 := q1.1.1
  have hF2 : FZ noF (fun a => ewW L a ∨ a = L + 6 ∨ a = 128) noO M M' := by
    rw [hM']
    exact ((q3.more (V := fun a => ewW L a ∨ a = L + 6 ∨ a = 128) (fun _ _ q => q) (fun _ q => Or.inl q) (fun _ q => q)).trans (FZ.wA (Or.inr (Or.inl rfl)))).trans (FZ.wA (Or.inr (Or.inr rfl)))
  have hgo : FZ (gwF L) (gwW L) (gwO L) M M' := hF2.more (fun _ _ q => q.elim) (fun a q => by
    rcases q with (q | q) | q | q
    · exact Or.inl (by omega)
    · exact Or.inl (by omega)
    · exact Or.inl (by omega)
    · exact Or.inr (Or.inl q)) (fun _ q => q.elim)
  have hS' : SQ M' := by rw [hM']; exact hS1.ka.ka
  have r128 : ∀ j, j < 1536 → rN M' 128 j = -1 := fun j hj => by
    rw [hM']
    exact rN_wA_eq hS1.ka.1 qa_128 qw_37 hj
  have rL : ∀ f k, f < 7 → f ≠ 5 → rN M' (L + 1 + f) k = rN M1 (L + 1 + f) k := fun f k hf h5 => by
    rw [hM', rN_wA_ne (by omega), rN_wA_ne (by omega)]
  have r6 : ∀ k, k < 256 → rN M' (L + 6) k = 0 := fun k hk => by
    rw [hM', rN_wA_ne (by omega)]
    exact rN_wA_eq hS1.1 (fx_h7 hL) qw_14 hk
  have hcel : LCel L P2 M' := by
    intro k f hk hf
    rw [hcl2] at hk
    have hin := (inC.nat hw hk).1
    rw [cE_nat hw hk P2 f, zE f (nI k) hf hin.1]
    have hk2 : (nI k).toInt = (k : Int) := nI_toInt (by omega)
    by_cases h5 : f = 5
    · subst h5
      rw [if_pos ⟨rfl, by omega, by omega⟩]
      exact r6 k (by omega)
    · rw [if_neg (fun q => h5 q.1), rL f k hf h5, ← cE_nat hw hk P1 f]
      exact q1.1.2.2.2.2.2.2 k f (by rw [hcl]; exact hk) hf
  have hE2 : okE B P2 := fun c hc => by
    have hc2 : inC P1 c := (inC.eq ((lo 0 (by decide)).trans (q4 0 (by decide)).symm) ((lo 1 (by decide)).trans (q4 1 (by decide)).symm)).mp hc
    obtain ⟨b1, b2, b3, b4, b5, b6⟩ := q2 c hc2
    have ee : ∀ f, f < 7 → f ≠ 5 → cE P2 f c = cE P1 f c := fun f hf h5 => by rw [zE f c hf hc.1, if_neg (fun q => h5 q.1)]
    unfold okC1
    rw [ee 0 (by decide) (by decide), ee 2 (by decide) (by decide), ee 3 (by decide) (by decide), ee 4 (by decide) (by decide), ee 6 (by decide) (by decide)]
    refine ⟨b1, b2, b3, b4, ?_, b6⟩
    rw [zE 5 c (by decide) hc.1]
    split
    · exact ⟨by decide, by show (0 : Int32).toInt ≤ _; omega⟩
    · exact b5
  have hk60 := hK.2.1
  obtain ⟨t1, t2, t3, t4⟩ := h.2.2.2.1
  have fz : ∀ a k, zI M' a k = zI M a k := fun a k => hF2.fi (fun q => q)
  refine ⟨q5, h.mv hD hS' hgo hcel (fun j hj => lo j (by omega)) hE2.nn (fun c hc => ?_) (vc_new r128 (hw.eq (lo 0 (by decide)) (lo 1 (by decide)))) ⟨?_, ?_, ?_, ?_⟩ (h.2.2.2.2.2.1.fz hF2 (fun q => q)), hD.sb (fun j hj => lo j (by omega)), ⟨by rw [lo 157 (by decide)]; exact hK.1, by rw [lo 157 (by decide)]; exact hK.2.1, fun t ht => ?_⟩, hE2, ⟨?_, fun t ht => ?_⟩, hgo, fun k => fz _ _, lo⟩
  · have hc2 := (inC.eq (lo 0 (by decide)) (lo 1 (by decide))).mp hc
    have : rI M' (L + 8) c = rI M (L + 8) c := hF2.rn (fun q => by
      rcases q with (q | q) | q | q <;> omega)
    rw [this, lo 157 (by decide), h.crd c hc2]
    exact (crd_congr _ (fun t ht => lo _ (by omega))).symm
  · rw [fz, t1, lo 518 (by decide)]
  · rw [fz, t2, lo 519 (by decide)]
  · rw [fz, t3, lo 520 (by decide)]
  · rw [fz, t4, lo 521 (by decide)]
  · rw [lo 157 (by decide)] at ht
    obtain ⟨b1, b2, b3, b4⟩ := hK.2.2 t ht
    rw [inC.eq (lo 0 (by decide)) (lo 1 (by decide)), lo _ (by omega), lo _ (by omega), lo 12 (by decide), lo _ (by omega)]
    exact ⟨b1, b2, b3, b4⟩
  · rw [fz, lo 157 (by decide)]; exact hl.1
  · rw [lo 157 (by decide)] at ht
    rw [hF2.on (fun q => q)]
    exact (hl.2 t ht).eq (fun f _ => fz _ f) (fun j hj => lo _ (by omega))
theorem wcl_l (hX : CTX L T P M) (h0 : zI M L 0 = P 0) (h1 : zI M L 1 = P 1) : ∀ (n : Nat) (c m : Int32), 0 ≤ c.toInt → c.toInt + (n : Int) = (clsP P : Int) → Ev none e 57 4 [some (.ref 104), some (.int m), some (.int c)] [] M v M' 0 0 → M' = M ∧ v = some (.int (netP (T 0) P n c m)) := by
  have hS := hX.1.1
  have hL := hX.1.2.1
  have hg := g6_ok (M := M) hX.2.1 h0 h1
  obtain ⟨_, c256, _⟩ := cls_int hX.2.1
  intro n
  induction n with
  | zero =>
    intro c m hc hn H
    rcases wcl_4 hS H with ⟨_, r1, r2⟩ | ⟨a1, _⟩ | ⟨a1, _⟩
    · exact ⟨r2, r1⟩
    all_goals exact absurd (Int32.le_iff_toInt_le.mpr (by rw [hL]; omega)) a1
  | succ n ih =>
    intro c m hc hn H
    have hcin : inC P c := ⟨hc, by omega⟩
    have e1 : (c + 1).toInt = c.toInt + 1 := i32_p1 (by omega)
    unfold netP
    rcases wcl_4 hS H with ⟨a1, _⟩ | ⟨_, a2, H⟩ | ⟨_, a2, H⟩
    · rw [hL] at a1
      have := Int32.le_iff_toInt_le.mp a1
      omega
    · rw [g56_ok hX.1 hcin, bI_0] at a2
      rw [a2, if_neg (by decide)]
      exact ih _ _ (by omega) (by omega) H
    · rw [g56_ok hX.1 hcin, bI_0, Bool.not_eq_false] at a2
      rw [a2, if_pos rfl]
      exact ih _ _ (by omega) (by omega) H
theorem wcl_ok (hX : CTX L T P M) (h0 : zI M L 0 = P 0) (h1 : zI M L 1 = P 1) (H : Ev none e 57 0 [some (.ref 104), none, none] [] M v M' 0 0) : M' = M ∧ v = some (.int (nwP (T 0) P)) := wcl_l hX h0 h1 (clsP P) 0 0 (by decide) (by have : (0 : Int32).toInt = 0 := rfl; omega) (wcl_0 hX.1.1 H)
end WEK
/-! THE CLASS'S lands: copy, renew: pieces (made by gwal3.py) -/
theorem cpy_0 {e : Nat} {M M' : Mem} {v : Option Value} {L Ot : Nat} (hS : SQ M) (a_L : gNth sT L = some 8) (a_Ot : gNth sT Ot = some 8) (H : Ev none e 13 0 [some (.ref L), some (.ref Ot), none] [] M v M' 0 0) : Ev none e 13 8 [some (.ref L), some (.ref Ot), none] [] (wF M L 0 (zI M Ot 0)) v M' 0 0 := by
  have H : Ev none e 13 2 [some (.ref L), some (.ref Ot), none] [.ref Ot, .ref L] M v M' 0 0 := Ev.back 2 (fun n => rfl) H
  have H : Ev none e 13 5 [some (.ref L), some (.ref Ot), none] [.int (zI M Ot 0), .ref L] M v M' 0 0 := Ev.back 1 (gs_3 rfl rfl (gf_i hS.1 a_Ot qi_8_0 rfl)) H
  obtain ⟨N2, eN2⟩ : ∃ N, N = (wF M L 0 (zI M Ot 0)) := ⟨_, rfl⟩
  have hN2 : SQ N2 := by rw [eN2]; exact hS.kf
  have H : Ev none e 13 8 [some (.ref L), some (.ref Ot), none] [] N2 v M' 0 0 := by rw [eN2]; exact Ev.pfi rfl rfl rfl hS.1 a_L qi_8_0 H
  have HF := H
  subst eN2
  exact HF
theorem cpy_8 {e : Nat} {M M' : Mem} {v : Option Value} {L Ot : Nat} (hS : SQ M) (a_L : gNth sT L = some 8) (a_Ot : gNth sT Ot = some 8) (H : Ev none e 13 8 [some (.ref L), some (.ref Ot), none] [] M v M' 0 0) : Ev none e 13 16 [some (.ref L), some (.ref Ot), none] [] (wF M L 1 (zI M Ot 1)) v M' 0 0 := by
  have H : Ev none e 13 10 [some (.ref L), some (.ref Ot), none] [.ref Ot, .ref L] M v M' 0 0 := Ev.back 2 (fun n => rfl) H
  have H : Ev none e 13 13 [some (.ref L), some (.ref Ot), none] [.int (zI M Ot 1), .ref L] M v M' 0 0 := Ev.back 1 (gs_3 rfl rfl (gf_i hS.1 a_Ot qi_8_1 rfl)) H
  obtain ⟨N2, eN2⟩ : ∃ N, N = (wF M L 1 (zI M Ot 1)) := ⟨_, rfl⟩
  have hN2 : SQ N2 := by rw [eN2]; exact hS.kf
  have H : Ev none e 13 16 [some (.ref L), some (.ref Ot), none] [] N2 v M' 0 0 := by rw [eN2]; exact Ev.pfi rfl rfl rfl hS.1 a_L qi_8_1 H
  have HF := H
  subst eN2
  exact HF
theorem cpy_16 {e : Nat} {M M' : Mem} {v : Option Value} {L Ot : Nat} (hS : SQ M) (a_L : gNth sT L = some 8) (a_Ot : gNth sT Ot = some 8) (H : Ev none e 13 16 [some (.ref L), some (.ref Ot), none] [] M v M' 0 0) : Ev none e 13 32 [some (.ref L), some (.ref Ot), none] [] (wC M (Ot + 1) (L + 1)) v M' 0 0 := by
  have H : Ev none e 13 17 [some (.ref L), some (.ref Ot), none] [.ref Ot] M v M' 0 0 := Ev.back 1 (fun n => rfl) H
  have H : Ev none e 13 20 [some (.ref L), some (.ref Ot), none] [.ref (Ot + 1)] M v M' 0 0 := Ev.back 1 (gs_3 rfl rfl (gf_x hS.1 a_Ot qo_8 (fx_l2 hS a_Ot) rfl)) H
  have H : Ev none e 13 22 [some (.ref L), some (.ref Ot), none] [.ref L, .int 0, .ref (Ot + 1)] M v M' 0 0 := Ev.back 2 (fun n => rfl) H
  have H : Ev none e 13 25 [some (.ref L), some (.ref Ot), none] [.ref (L + 1), .int 0, .ref (Ot + 1)] M v M' 0 0 := Ev.back 1 (gs_3 rfl rfl (gf_x hS.1 a_L qo_8 (fx_l2 hS a_L) rfl)) H
  have H : Ev none e 13 29 [some (.ref L), some (.ref Ot), none] [.int 256, .int 0, .ref (L + 1), .int 0, .ref (Ot + 1)] M v M' 0 0 := Ev.back 2 (fun n => rfl) H
  have H := Ev.cpy rfl rfl (fun _ _ => rfl) hS.1 (fx_h2 a_Ot) qw_9 (fx_h2 a_L) qw_9 rfl H
  obtain ⟨N1, eN1⟩ : ∃ N, N = (wC M (Ot + 1) (L + 1)) := ⟨_, rfl⟩
  have hN1 : SQ N1 := by rw [eN1]; exact hS.kc (fx_h2 a_Ot) qw_9 (fx_h2 a_L) qw_9
  have H : Ev none e 13 32 [some (.ref L), some (.ref Ot), none] [] N1 v M' 0 0 := by rw [eN1]; exact H
  have HF := H
  subst eN1
  exact HF
theorem cpy_32 {e : Nat} {M M' : Mem} {v : Option Value} {L Ot : Nat} (hS : SQ M) (a_L : gNth sT L = some 8) (a_Ot : gNth sT Ot = some 8) (H : Ev none e 13 32 [some (.ref L), some (.ref Ot), none] [] M v M' 0 0) : Ev none e 13 48 [some (.ref L), some (.ref Ot), none] [] (wC M (Ot + 2) (L + 2)) v M' 0 0 := by
  have H : Ev none e 13 33 [some (.ref L), some (.ref Ot), none] [.ref Ot] M v M' 0 0 := Ev.back 1 (fun n => rfl) H
  have H : Ev none e 13 36 [some (.ref L), some (.ref Ot), none] [.ref (Ot + 2)] M v M' 0 0 := Ev.back 1 (gs_3 rfl rfl (gf_x hS.1 a_Ot qo_8 (fx_l3 hS a_Ot) rfl)) H
  have H : Ev none e 13 38 [some (.ref L), some (.ref Ot), none] [.ref L, .int 0, .ref (Ot + 2)] M v M' 0 0 := Ev.back 2 (fun n => rfl) H
  have H : Ev none e 13 41 [some (.ref L), some (.ref Ot), none] [.ref (L + 2), .int 0, .ref (Ot + 2)] M v M' 0 0 := Ev.back 1 (gs_3 rfl rfl (gf_x hS.1 a_L qo_8 (fx_l3 hS a_L) rfl)) H
  have H : Ev none e 13 45 [some (.ref L), some (.ref Ot), none] [.int 256, .int 0, .ref (L + 2), .int 0, .ref (Ot + 2)] M v M' 0 0 := Ev.back 2 (fun n => rfl) H
  have H := Ev.cpy rfl rfl (fun _ _ => rfl) hS.1 (fx_h3 a_Ot) qw_10 (fx_h3 a_L) qw_10 rfl H
  obtain ⟨N1, eN1⟩ : ∃ N, N = (wC M (Ot + 2) (L + 2)) := ⟨_, rfl⟩
  have hN1 : SQ N1 := by rw [eN1]; exact hS.kc (fx_h3 a_Ot) qw_10 (fx_h3 a_L) qw_10
  have H : Ev none e 13 48 [some (.ref L), some (.ref Ot), none] [] N1 v M' 0 0 := by rw [eN1]; exact H
  have HF := H
  subst eN1
  exact HF
theorem cpy_48 {e : Nat} {M M' : Mem} {v : Option Value} {L Ot : Nat} (hS : SQ M) (a_L : gNth sT L = some 8) (a_Ot : gNth sT Ot = some 8) (H : Ev none e 13 48 [some (.ref L), some (.ref Ot), none] [] M v M' 0 0) : Ev none e 13 64 [some (.ref L), some (.ref Ot), none] [] (wC M (Ot + 3) (L + 3)) v M' 0 0 := by
  have H : Ev none e 13 49 [some (.ref L), some (.ref Ot), none] [.ref Ot] M v M' 0 0 := Ev.back 1 (fun n => rfl) H
  have H : Ev none e 13 52 [some (.ref L), some (.ref Ot), none] [.ref (Ot + 3)] M v M' 0 0 := Ev.back 1 (gs_3 rfl rfl (gf_x hS.1 a_Ot qo_8 (fx_l4 hS a_Ot) rfl)) H
  have H : Ev none e 13 54 [some (.ref L), some (.ref Ot), none] [.ref L, .int 0, .ref (Ot + 3)] M v M' 0 0 := Ev.back 2 (fun n => rfl) H
  have H : Ev none e 13 57 [some (.ref L), some (.ref Ot), none] [.ref (L + 3), .int 0, .ref (Ot + 3)] M v M' 0 0 := Ev.back 1 (gs_3 rfl rfl (gf_x hS.1 a_L qo_8 (fx_l4 hS a_L) rfl)) H
  have H : Ev none e 13 61 [some (.ref L), some (.ref Ot), none] [.int 256, .int 0, .ref (L + 3), .int 0, .ref (Ot + 3)] M v M' 0 0 := Ev.back 2 (fun n => rfl) H
  have H := Ev.cpy rfl rfl (fun _ _ => rfl) hS.1 (fx_h4 a_Ot) qw_11 (fx_h4 a_L) qw_11 rfl H
  obtain ⟨N1, eN1⟩ : ∃ N, N = (wC M (Ot + 3) (L + 3)) := ⟨_, rfl⟩
  have hN1 : SQ N1 := by rw [eN1]; exact hS.kc (fx_h4 a_Ot) qw_11 (fx_h4 a_L) qw_11
  have H : Ev none e 13 64 [some (.ref L), some (.ref Ot), none] [] N1 v M' 0 0 := by rw [eN1]; exact H
  have HF := H
  subst eN1
  exact HF
theorem cpy_64 {e : Nat} {M M' : Mem} {v : Option Value} {L Ot : Nat} (hS : SQ M) (a_L : gNth sT L = some 8) (a_Ot : gNth sT Ot = some 8) (H : Ev none e 13 64 [some (.ref L), some (.ref Ot), none] [] M v M' 0 0) : Ev none e 13 80 [some (.ref L), some (.ref Ot), none] [] (wC M (Ot + 4) (L + 4)) v M' 0 0 := by
  have H : Ev none e 13 65 [some (.ref L), some (.ref Ot), none] [.ref Ot] M v M' 0 0 := Ev.back 1 (fun n => rfl) H
  have H : Ev none e 13 68 [some (.ref L), some (.ref Ot), none] [.ref (Ot + 4)] M v M' 0 0 := Ev.back 1 (gs_3 rfl rfl (gf_x hS.1 a_Ot qo_8 (fx_l5 hS a_Ot) rfl)) H
  have H : Ev none e 13 70 [some (.ref L), some (.ref Ot), none] [.ref L, .int 0, .ref (Ot + 4)] M v M' 0 0 := Ev.back 2 (fun n => rfl) H
  have H : Ev none e 13 73 [some (.ref L), some (.ref Ot), none] [.ref (L + 4), .int 0, .ref (Ot + 4)] M v M' 0 0 := Ev.back 1 (gs_3 rfl rfl (gf_x hS.1 a_L qo_8 (fx_l5 hS a_L) rfl)) H
  have H : Ev none e 13 77 [some (.ref L), some (.ref Ot), none] [.int 256, .int 0, .ref (L + 4), .int 0, .ref (Ot + 4)] M v M' 0 0 := Ev.back 2 (fun n => rfl) H
  have H := Ev.cpy rfl rfl (fun _ _ => rfl) hS.1 (fx_h5 a_Ot) qw_12 (fx_h5 a_L) qw_12 rfl H
  obtain ⟨N1, eN1⟩ : ∃ N, N = (wC M (Ot + 4) (L + 4)) := ⟨_, rfl⟩
  have hN1 : SQ N1 := by rw [eN1]; exact hS.kc (fx_h5 a_Ot) qw_12 (fx_h5 a_L) qw_12
  have H : Ev none e 13 80 [some (.ref L), some (.ref Ot), none] [] N1 v M' 0 0 := by rw [eN1]; exact H
  have HF := H
  subst eN1
  exact HF
theorem cpy_80 {e : Nat} {M M' : Mem} {v : Option Value} {L Ot : Nat} (hS : SQ M) (a_L : gNth sT L = some 8) (a_Ot : gNth sT Ot = some 8) (H : Ev none e 13 80 [some (.ref L), some (.ref Ot), none] [] M v M' 0 0) : Ev none e 13 96 [some (.ref L), some (.ref Ot), none] [] (wC M (Ot + 5) (L + 5)) v M' 0 0 := by
  have H : Ev none e 13 81 [some (.ref L), some (.ref Ot), none] [.ref Ot] M v M' 0 0 := Ev.back 1 (fun n => rfl) H
  have H : Ev none e 13 84 [some (.ref L), some (.ref Ot), none] [.ref (Ot + 5)] M v M' 0 0 := Ev.back 1 (gs_3 rfl rfl (gf_x hS.1 a_Ot qo_8 (fx_l6 hS a_Ot) rfl)) H
  have H : Ev none e 13 86 [some (.ref L), some (.ref Ot), none] [.ref L, .int 0, .ref (Ot + 5)] M v M' 0 0 := Ev.back 2 (fun n => rfl) H
  have H : Ev none e 13 89 [some (.ref L), some (.ref Ot), none] [.ref (L + 5), .int 0, .ref (Ot + 5)] M v M' 0 0 := Ev.back 1 (gs_3 rfl rfl (gf_x hS.1 a_L qo_8 (fx_l6 hS a_L) rfl)) H
  have H : Ev none e 13 93 [some (.ref L), some (.ref Ot), none] [.int 256, .int 0, .ref (L + 5), .int 0, .ref (Ot + 5)] M v M' 0 0 := Ev.back 2 (fun n => rfl) H
  have H := Ev.cpy rfl rfl (fun _ _ => rfl) hS.1 (fx_h6 a_Ot) qw_13 (fx_h6 a_L) qw_13 rfl H
  obtain ⟨N1, eN1⟩ : ∃ N, N = (wC M (Ot + 5) (L + 5)) := ⟨_, rfl⟩
  have hN1 : SQ N1 := by rw [eN1]; exact hS.kc (fx_h6 a_Ot) qw_13 (fx_h6 a_L) qw_13
  have H : Ev none e 13 96 [some (.ref L), some (.ref Ot), none] [] N1 v M' 0 0 := by rw [eN1]; exact H
  have HF := H
  subst eN1
  exact HF
theorem cpy_96 {e : Nat} {M M' : Mem} {v : Option Value} {L Ot : Nat} (hS : SQ M) (a_L : gNth sT L = some 8) (a_Ot : gNth sT Ot = some 8) (H : Ev none e 13 96 [some (.ref L), some (.ref Ot), none] [] M v M' 0 0) : Ev none e 13 112 [some (.ref L), some (.ref Ot), none] [] (wC M (Ot + 6) (L + 6)) v M' 0 0 := by
  have H : Ev none e 13 97 [some (.ref L), some (.ref Ot), none] [.ref Ot] M v M' 0 0 := Ev.back 1 (fun n => rfl) H
  have H : Ev none e 13 100 [some (.ref L), some (.ref Ot), none] [.ref (Ot + 6)] M v M' 0 0 := Ev.back 1 (gs_3 rfl rfl (gf_x hS.1 a_Ot qo_8 (fx_l7 hS a_Ot) rfl)) H
  have H : Ev none e 13 102 [some (.ref L), some (.ref Ot), none] [.ref L, .int 0, .ref (Ot + 6)] M v M' 0 0 := Ev.back 2 (fun n => rfl) H
  have H : Ev none e 13 105 [some (.ref L), some (.ref Ot), none] [.ref (L + 6), .int 0, .ref (Ot + 6)] M v M' 0 0 := Ev.back 1 (gs_3 rfl rfl (gf_x hS.1 a_L qo_8 (fx_l7 hS a_L) rfl)) H
  have H : Ev none e 13 109 [some (.ref L), some (.ref Ot), none] [.int 256, .int 0, .ref (L + 6), .int 0, .ref (Ot + 6)] M v M' 0 0 := Ev.back 2 (fun n => rfl) H
  have H := Ev.cpy rfl rfl (fun _ _ => rfl) hS.1 (fx_h7 a_Ot) qw_14 (fx_h7 a_L) qw_14 rfl H
  obtain ⟨N1, eN1⟩ : ∃ N, N = (wC M (Ot + 6) (L + 6)) := ⟨_, rfl⟩
  have hN1 : SQ N1 := by rw [eN1]; exact hS.kc (fx_h7 a_Ot) qw_14 (fx_h7 a_L) qw_14
  have H : Ev none e 13 112 [some (.ref L), some (.ref Ot), none] [] N1 v M' 0 0 := by rw [eN1]; exact H
  have HF := H
  subst eN1
  exact HF
theorem cpy_112 {e : Nat} {M M' : Mem} {v : Option Value} {L Ot : Nat} (hS : SQ M) (a_L : gNth sT L = some 8) (a_Ot : gNth sT Ot = some 8) (H : Ev none e 13 112 [some (.ref L), some (.ref Ot), none] [] M v M' 0 0) : Ev none e 13 128 [some (.ref L), some (.ref Ot), none] [] (wC M (Ot + 7) (L + 7)) v M' 0 0 := by
  have H : Ev none e 13 113 [some (.ref L), some (.ref Ot), none] [.ref Ot] M v M' 0 0 := Ev.back 1 (fun n => rfl) H
  have H : Ev none e 13 116 [some (.ref L), some (.ref Ot), none] [.ref (Ot + 7)] M v M' 0 0 := Ev.back 1 (gs_3 rfl rfl (gf_x hS.1 a_Ot qo_8 (fx_l8 hS a_Ot) rfl)) H
  have H : Ev none e 13 118 [some (.ref L), some (.ref Ot), none] [.ref L, .int 0, .ref (Ot + 7)] M v M' 0 0 := Ev.back 2 (fun n => rfl) H
  have H : Ev none e 13 121 [some (.ref L), some (.ref Ot), none] [.ref (L + 7), .int 0, .ref (Ot + 7)] M v M' 0 0 := Ev.back 1 (gs_3 rfl rfl (gf_x hS.1 a_L qo_8 (fx_l8 hS a_L) rfl)) H
  have H : Ev none e 13 125 [some (.ref L), some (.ref Ot), none] [.int 256, .int 0, .ref (L + 7), .int 0, .ref (Ot + 7)] M v M' 0 0 := Ev.back 2 (fun n => rfl) H
  have H := Ev.cpy rfl rfl (fun _ _ => rfl) hS.1 (fx_h8 a_Ot) qw_15 (fx_h8 a_L) qw_15 rfl H
  obtain ⟨N1, eN1⟩ : ∃ N, N = (wC M (Ot + 7) (L + 7)) := ⟨_, rfl⟩
  have hN1 : SQ N1 := by rw [eN1]; exact hS.kc (fx_h8 a_Ot) qw_15 (fx_h8 a_L) qw_15
  have H : Ev none e 13 128 [some (.ref L), some (.ref Ot), none] [] N1 v M' 0 0 := by rw [eN1]; exact H
  have HF := H
  subst eN1
  exact HF
theorem cpy_128 {e : Nat} {M M' : Mem} {v : Option Value} {L Ot : Nat} (hS : SQ M) (a_L : gNth sT L = some 8) (a_Ot : gNth sT Ot = some 8) (H : Ev none e 13 128 [some (.ref L), some (.ref Ot), none] [] M v M' 0 0) : Ev none e 13 144 [some (.ref L), some (.ref Ot), none] [] (wC M (Ot + 8) (L + 8)) v M' 0 0 := by
  have H : Ev none e 13 129 [some (.ref L), some (.ref Ot), none] [.ref Ot] M v M' 0 0 := Ev.back 1 (fun n => rfl) H
  have H : Ev none e 13 132 [some (.ref L), some (.ref Ot), none] [.ref (Ot + 8)] M v M' 0 0 := Ev.back 1 (gs_3 rfl rfl (gf_x hS.1 a_Ot qo_8 (fx_l9 hS a_Ot) rfl)) H
  have H : Ev none e 13 134 [some (.ref L), some (.ref Ot), none] [.ref L, .int 0, .ref (Ot + 8)] M v M' 0 0 := Ev.back 2 (fun n => rfl) H
  have H : Ev none e 13 137 [some (.ref L), some (.ref Ot), none] [.ref (L + 8), .int 0, .ref (Ot + 8)] M v M' 0 0 := Ev.back 1 (gs_3 rfl rfl (gf_x hS.1 a_L qo_8 (fx_l9 hS a_L) rfl)) H
  have H : Ev none e 13 141 [some (.ref L), some (.ref Ot), none] [.int 256, .int 0, .ref (L + 8), .int 0, .ref (Ot + 8)] M v M' 0 0 := Ev.back 2 (fun n => rfl) H
  have H := Ev.cpy rfl rfl (fun _ _ => rfl) hS.1 (fx_h9 a_Ot) qw_16 (fx_h9 a_L) qw_16 rfl H
  obtain ⟨N1, eN1⟩ : ∃ N, N = (wC M (Ot + 8) (L + 8)) := ⟨_, rfl⟩
  have hN1 : SQ N1 := by rw [eN1]; exact hS.kc (fx_h9 a_Ot) qw_16 (fx_h9 a_L) qw_16
  have H : Ev none e 13 144 [some (.ref L), some (.ref Ot), none] [] N1 v M' 0 0 := by rw [eN1]; exact H
  have HF := H
  subst eN1
  exact HF
theorem cpy_144 {e : Nat} {M M' : Mem} {v : Option Value} {L Ot : Nat} (hS : SQ M) (a_L : gNth sT L = some 8) (a_Ot : gNth sT Ot = some 8) (H : Ev none e 13 144 [some (.ref L), some (.ref Ot), none] [] M v M' 0 0) : Ev none e 13 159 [some (.ref L), some (.ref Ot), none] [] (wC M (Ot + 9) (L + 9)) v M' 0 0 := by
  have H : Ev none e 13 145 [some (.ref L), some (.ref Ot), none] [.ref Ot] M v M' 0 0 := Ev.back 1 (fun n => rfl) H
  have H : Ev none e 13 148 [some (.ref L), some (.ref Ot), none] [.ref (Ot + 9)] M v M' 0 0 := Ev.back 1 (gs_3 rfl rfl (gf_x hS.1 a_Ot qo_8 (fx_l10 hS a_Ot) rfl)) H
  have H : Ev none e 13 150 [some (.ref L), some (.ref Ot), none] [.ref L, .int 0, .ref (Ot + 9)] M v M' 0 0 := Ev.back 2 (fun n => rfl) H
  have H : Ev none e 13 153 [some (.ref L), some (.ref Ot), none] [.ref (L + 9), .int 0, .ref (Ot + 9)] M v M' 0 0 := Ev.back 1 (gs_3 rfl rfl (gf_x hS.1 a_L qo_8 (fx_l10 hS a_L) rfl)) H
  have H : Ev none e 13 156 [some (.ref L), some (.ref Ot), none] [.int 9, .int 0, .ref (L + 9), .int 0, .ref (Ot + 9)] M v M' 0 0 := Ev.back 2 (fun n => rfl) H
  have H := Ev.cpy rfl rfl (fun _ _ => rfl) hS.1 (fx_h10 a_Ot) qw_17 (fx_h10 a_L) qw_17 rfl H
  obtain ⟨N1, eN1⟩ : ∃ N, N = (wC M (Ot + 9) (L + 9)) := ⟨_, rfl⟩
  have hN1 : SQ N1 := by rw [eN1]; exact hS.kc (fx_h10 a_Ot) qw_17 (fx_h10 a_L) qw_17
  have H : Ev none e 13 159 [some (.ref L), some (.ref Ot), none] [] N1 v M' 0 0 := by rw [eN1]; exact H
  have HF := H
  subst eN1
  exact HF
theorem cpy_159 {e : Nat} {M M' : Mem} {v : Option Value} {L Ot : Nat} (hS : SQ M) (a_L : gNth sT L = some 8) (a_Ot : gNth sT Ot = some 8) (H : Ev none e 13 159 [some (.ref L), some (.ref Ot), none] [] M v M' 0 0) : Ev none e 13 167 [some (.ref L), some (.ref Ot), none] [] (wF M L 11 (zI M Ot 11)) v M' 0 0 := by
  have H : Ev none e 13 161 [some (.ref L), some (.ref Ot), none] [.ref Ot, .ref L] M v M' 0 0 := Ev.back 2 (fun n => rfl) H
  have H : Ev none e 13 164 [some (.ref L), some (.ref Ot), none] [.int (zI M Ot 11), .ref L] M v M' 0 0 := Ev.back 1 (gs_3 rfl rfl (gf_i hS.1 a_Ot qi_8_11 rfl)) H
  obtain ⟨N2, eN2⟩ : ∃ N, N = (wF M L 11 (zI M Ot 11)) := ⟨_, rfl⟩
  have hN2 : SQ N2 := by rw [eN2]; exact hS.kf
  have H : Ev none e 13 167 [some (.ref L), some (.ref Ot), none] [] N2 v M' 0 0 := by rw [eN2]; exact Ev.pfi rfl rfl rfl hS.1 a_L qi_8_11 H
  have HF := H
  subst eN2
  exact HF
theorem cpy_167 {e : Nat} {M M' : Mem} {v : Option Value} {L Ot : Nat} (hS : SQ M) (a_L : gNth sT L = some 8) (a_Ot : gNth sT Ot = some 8) (H : Ev none e 13 167 [some (.ref L), some (.ref Ot), none] [] M v M' 0 0) : Ev none e 13 177 [some (.ref L), some (.ref Ot), some (.int 0)] [] (wF M L 13 (zI M Ot 13)) v M' 0 0 := by
  have H : Ev none e 13 169 [some (.ref L), some (.ref Ot), none] [.ref Ot, .ref L] M v M' 0 0 := Ev.back 2 (fun n => rfl) H
  have H : Ev none e 13 172 [some (.ref L), some (.ref Ot), none] [.int (zI M Ot 13), .ref L] M v M' 0 0 := Ev.back 1 (gs_3 rfl rfl (gf_i hS.1 a_Ot qi_8_13 rfl)) H
  obtain ⟨N2, eN2⟩ : ∃ N, N = (wF M L 13 (zI M Ot 13)) := ⟨_, rfl⟩
  have hN2 : SQ N2 := by rw [eN2]; exact hS.kf
  have H : Ev none e 13 175 [some (.ref L), some (.ref Ot), none] [] N2 v M' 0 0 := by rw [eN2]; exact Ev.pfi rfl rfl rfl hS.1 a_L qi_8_13 H
  have H : Ev none e 13 177 [some (.ref L), some (.ref Ot), some (.int 0)] [] N2 v M' 0 0 := Ev.back 2 (fun n => rfl) H
  have HF := H
  subst eN2
  exact HF
theorem cpy_177 {e : Nat} {M M' : Mem} {v : Option Value} {k : Int32} {L Ot : Nat} (hS : SQ M) (a_L : gNth sT L = some 8) (a_Ot : gNth sT Ot = some 8) (H : Ev none e 13 177 [some (.ref L), some (.ref Ot), some (.int k)] [] M v M' 0 0) : ((zI M L 13) ≤ k ∧ Ev none e 13 206 [some (.ref L), some (.ref Ot), some (.int k)] [] M v M' 0 0) ∨ (¬ ((zI M L 13) ≤ k) ∧ (0 ≤ k.toInt ∧ k.toInt < 24) ∧ (0 ≤ k.toInt ∧ k.toInt < 24) ∧ (∃ e1 v1 M1, e = e1 + 1 ∧ Ev none e1 77 0 [some (.ref (oI M (L + 10) k)), some (.ref (oI M (Ot + 10) k))] [] M v1 M1 0 0 ∧ Ev none e 13 200 [some (.ref L), some (.ref Ot), some (.int k)] (v1.toList ++ []) M1 v M' 0 0)) := by
  have H : Ev none e 13 179 [some (.ref L), some (.ref Ot), some (.int k)] [.ref L, .int k] M v M' 0 0 := Ev.back 2 (fun n => rfl) H
  have H : Ev none e 13 182 [some (.ref L), some (.ref Ot), some (.int k)] [.int (zI M L 13), .int k] M v M' 0 0 := Ev.back 1 (gs_3 rfl rfl (gf_i hS.1 a_L qi_8_13 rfl)) H
  have H : Ev none e 13 (if (zI M L 13) ≤ k then 206 else 185) [some (.ref L), some (.ref Ot), some (.int k)] [] M v M' 0 0 := Ev.back 1 (fun n => rfl) H
  by_cases h1 : (zI M L 13) ≤ k
  · rw [if_pos h1] at H
    have HF := H
    exact Or.inl ⟨h1, HF⟩
  · rw [if_neg h1] at H
    have H : Ev none e 13 186 [some (.ref L), some (.ref Ot), some (.int k)] [.ref L] M v M' 0 0 := Ev.back 1 (fun n => rfl) H
    have H : Ev none e 13 189 [some (.ref L), some (.ref Ot), some (.int k)] [.ref (L + 10)] M v M' 0 0 := Ev.back 1 (gs_3 rfl rfl (gf_x hS.1 a_L qo_8 (fx_l12 hS a_L) rfl)) H
    have H : Ev none e 13 190 [some (.ref L), some (.ref Ot), some (.int k)] [.int k, .ref (L + 10)] M v M' 0 0 := Ev.back 1 (fun n => rfl) H
    obtain ⟨b2, H⟩ := Ev.aal rfl rfl hS.1 (fx_h12 a_L) qz_18 H
    have H : Ev none e 13 191 [some (.ref L), some (.ref Ot), some (.int k)] [.ref (oI M (L + 10) k)] M v M' 0 0 := H
    have H : Ev none e 13 192 [some (.ref L), some (.ref Ot), some (.int k)] [.ref Ot, .ref (oI M (L + 10) k)] M v M' 0 0 := Ev.back 1 (fun n => rfl) H
    have H : Ev none e 13 195 [some (.ref L), some (.ref Ot), some (.int k)] [.ref (Ot + 10), .ref (oI M (L + 10) k)] M v M' 0 0 := Ev.back 1 (gs_3 rfl rfl (gf_x hS.1 a_Ot qo_8 (fx_l12 hS a_Ot) rfl)) H
    have H : Ev none e 13 196 [some (.ref L), some (.ref Ot), some (.int k)] [.int k, .ref (Ot + 10), .ref (oI M (L + 10) k)] M v M' 0 0 := Ev.back 1 (fun n => rfl) H
    obtain ⟨b3, H⟩ := Ev.aal rfl rfl hS.1 (fx_h12 a_Ot) qz_18 H
    have H : Ev none e 13 197 [some (.ref L), some (.ref Ot), some (.int k)] [.ref (oI M (Ot + 10) k), .ref (oI M (L + 10) k)] M v M' 0 0 := H
    obtain ⟨e1, rfl⟩ := Ev.dpos rfl rfl H
    obtain ⟨vK4, MK4, K4, H⟩ := Ev.callb (fun n_ => gs_7 rfl rfl (show gCal (.invokevirtual 106) 1 (.ref (oI M (Ot + 10) k) :: .ref (oI M (L + 10) k) :: []) M = some (.inr (77, [some (.ref (oI M (L + 10) k)), some (.ref (oI M (Ot + 10) k))], [])) from by show @cond (Option ((List Value × Mem) ⊕ (Nat × Lo × List Value))) (true && gRecv M (.ref (oI M (L + 10) k)) 9 && gRoom [] && true) (some (.inr (77, [some (.ref (oI M (L + 10) k)), some (.ref (oI M (Ot + 10) k))], []))) none = _; rw [recv_s hS.1 b2.2 qo_20]; rfl)) H
    have K4 : Ev none e1 77 0 [some (.ref (oI M (L + 10) k)), some (.ref (oI M (Ot + 10) k))] [] M vK4 MK4 0 0 := K4
    have HF := H
    exact Or.inr (⟨h1, b2.1, b3.1, ⟨e1, vK4, MK4, rfl, K4, HF⟩⟩)
theorem cpy_200 {e : Nat} {M M' : Mem} {v : Option Value} {k : Int32} {L Ot : Nat} (hS : SQ M) (a_L : gNth sT L = some 8) (a_Ot : gNth sT Ot = some 8) (H : Ev none e 13 200 [some (.ref L), some (.ref Ot), some (.int k)] [] M v M' 0 0) : Ev none e 13 177 [some (.ref L), some (.ref Ot), some (.int (k + 1))] [] M v M' 0 0 := by
  have H : Ev none e 13 177 [some (.ref L), some (.ref Ot), some (.int (k + 1))] [] M v M' 0 0 := Ev.back 2 (fun n => rfl) H
  have HF := H
  exact HF
theorem cpy_206 {e : Nat} {M M' : Mem} {v : Option Value} {k : Int32} {L Ot : Nat} (hS : SQ M) (a_L : gNth sT L = some 8) (a_Ot : gNth sT Ot = some 8) (H : Ev none e 13 206 [some (.ref L), some (.ref Ot), some (.int k)] [] M v M' 0 0) : Ev none e 13 216 [some (.ref L), some (.ref Ot), some (.int 0)] [] (wF M L 15 (zI M Ot 15)) v M' 0 0 := by
  have H : Ev none e 13 208 [some (.ref L), some (.ref Ot), some (.int k)] [.ref Ot, .ref L] M v M' 0 0 := Ev.back 2 (fun n => rfl) H
  have H : Ev none e 13 211 [some (.ref L), some (.ref Ot), some (.int k)] [.int (zI M Ot 15), .ref L] M v M' 0 0 := Ev.back 1 (gs_3 rfl rfl (gf_i hS.1 a_Ot qi_8_15 rfl)) H
  obtain ⟨N2, eN2⟩ : ∃ N, N = (wF M L 15 (zI M Ot 15)) := ⟨_, rfl⟩
  have hN2 : SQ N2 := by rw [eN2]; exact hS.kf
  have H : Ev none e 13 214 [some (.ref L), some (.ref Ot), some (.int k)] [] N2 v M' 0 0 := by rw [eN2]; exact Ev.pfi rfl rfl rfl hS.1 a_L qi_8_15 H
  have H : Ev none e 13 216 [some (.ref L), some (.ref Ot), some (.int 0)] [] N2 v M' 0 0 := Ev.back 2 (fun n => rfl) H
  have HF := H
  subst eN2
  exact HF
theorem cpy_216 {e : Nat} {M M' : Mem} {v : Option Value} {k : Int32} {L Ot : Nat} (hS : SQ M) (a_L : gNth sT L = some 8) (a_Ot : gNth sT Ot = some 8) (H : Ev none e 13 216 [some (.ref L), some (.ref Ot), some (.int k)] [] M v M' 0 0) : ((zI M L 15) ≤ k ∧ Ev none e 13 245 [some (.ref L), some (.ref Ot), some (.int k)] [] M v M' 0 0) ∨ (¬ ((zI M L 15) ≤ k) ∧ (0 ≤ k.toInt ∧ k.toInt < 60) ∧ (0 ≤ k.toInt ∧ k.toInt < 60) ∧ (∃ e1 v1 M1, e = e1 + 1 ∧ Ev none e1 75 0 [some (.ref (oI M (L + 11) k)), some (.ref (oI M (Ot + 11) k))] [] M v1 M1 0 0 ∧ Ev none e 13 239 [some (.ref L), some (.ref Ot), some (.int k)] (v1.toList ++ []) M1 v M' 0 0)) := by
  have H : Ev none e 13 218 [some (.ref L), some (.ref Ot), some (.int k)] [.ref L, .int k] M v M' 0 0 := Ev.back 2 (fun n => rfl) H
  have H : Ev none e 13 221 [some (.ref L), some (.ref Ot), some (.int k)] [.int (zI M L 15), .int k] M v M' 0 0 := Ev.back 1 (gs_3 rfl rfl (gf_i hS.1 a_L qi_8_15 rfl)) H
  have H : Ev none e 13 (if (zI M L 15) ≤ k then 245 else 224) [some (.ref L), some (.ref Ot), some (.int k)] [] M v M' 0 0 := Ev.back 1 (fun n => rfl) H
  by_cases h1 : (zI M L 15) ≤ k
  · rw [if_pos h1] at H
    have HF := H
    exact Or.inl ⟨h1, HF⟩
  · rw [if_neg h1] at H
    have H : Ev none e 13 225 [some (.ref L), some (.ref Ot), some (.int k)] [.ref L] M v M' 0 0 := Ev.back 1 (fun n => rfl) H
    have H : Ev none e 13 228 [some (.ref L), some (.ref Ot), some (.int k)] [.ref (L + 11)] M v M' 0 0 := Ev.back 1 (gs_3 rfl rfl (gf_x hS.1 a_L qo_8 (fx_l14 hS a_L) rfl)) H
    have H : Ev none e 13 229 [some (.ref L), some (.ref Ot), some (.int k)] [.int k, .ref (L + 11)] M v M' 0 0 := Ev.back 1 (fun n => rfl) H
    obtain ⟨b2, H⟩ := Ev.aal rfl rfl hS.1 (fx_h14 a_L) qz_19 H
    have H : Ev none e 13 230 [some (.ref L), some (.ref Ot), some (.int k)] [.ref (oI M (L + 11) k)] M v M' 0 0 := H
    have H : Ev none e 13 231 [some (.ref L), some (.ref Ot), some (.int k)] [.ref Ot, .ref (oI M (L + 11) k)] M v M' 0 0 := Ev.back 1 (fun n => rfl) H
    have H : Ev none e 13 234 [some (.ref L), some (.ref Ot), some (.int k)] [.ref (Ot + 11), .ref (oI M (L + 11) k)] M v M' 0 0 := Ev.back 1 (gs_3 rfl rfl (gf_x hS.1 a_Ot qo_8 (fx_l14 hS a_Ot) rfl)) H
    have H : Ev none e 13 235 [some (.ref L), some (.ref Ot), some (.int k)] [.int k, .ref (Ot + 11), .ref (oI M (L + 11) k)] M v M' 0 0 := Ev.back 1 (fun n => rfl) H
    obtain ⟨b3, H⟩ := Ev.aal rfl rfl hS.1 (fx_h14 a_Ot) qz_19 H
    have H : Ev none e 13 236 [some (.ref L), some (.ref Ot), some (.int k)] [.ref (oI M (Ot + 11) k), .ref (oI M (L + 11) k)] M v M' 0 0 := H
    obtain ⟨e1, rfl⟩ := Ev.dpos rfl rfl H
    obtain ⟨vK4, MK4, K4, H⟩ := Ev.callb (fun n_ => gs_7 rfl rfl (show gCal (.invokevirtual 110) 1 (.ref (oI M (Ot + 11) k) :: .ref (oI M (L + 11) k) :: []) M = some (.inr (75, [some (.ref (oI M (L + 11) k)), some (.ref (oI M (Ot + 11) k))], [])) from by show @cond (Option ((List Value × Mem) ⊕ (Nat × Lo × List Value))) (true && gRecv M (.ref (oI M (L + 11) k)) 8 && gRoom [] && true) (some (.inr (75, [some (.ref (oI M (L + 11) k)), some (.ref (oI M (Ot + 11) k))], []))) none = _; rw [recv_s hS.1 b2.2 qo_21]; rfl)) H
    have K4 : Ev none e1 75 0 [some (.ref (oI M (L + 11) k)), some (.ref (oI M (Ot + 11) k))] [] M vK4 MK4 0 0 := K4
    have HF := H
    exact Or.inr (⟨h1, b2.1, b3.1, ⟨e1, vK4, MK4, rfl, K4, HF⟩⟩)
theorem cpy_239 {e : Nat} {M M' : Mem} {v : Option Value} {k : Int32} {L Ot : Nat} (hS : SQ M) (a_L : gNth sT L = some 8) (a_Ot : gNth sT Ot = some 8) (H : Ev none e 13 239 [some (.ref L), some (.ref Ot), some (.int k)] [] M v M' 0 0) : Ev none e 13 216 [some (.ref L), some (.ref Ot), some (.int (k + 1))] [] M v M' 0 0 := by
  have H : Ev none e 13 216 [some (.ref L), some (.ref Ot), some (.int (k + 1))] [] M v M' 0 0 := Ev.back 2 (fun n => rfl) H
  have HF := H
  exact HF
theorem cpy_245 {e : Nat} {M M' : Mem} {v : Option Value} {k : Int32} {L Ot : Nat} (hS : SQ M) (a_L : gNth sT L = some 8) (a_Ot : gNth sT Ot = some 8) (H : Ev none e 13 245 [some (.ref L), some (.ref Ot), some (.int k)] [] M v M' 0 0) : Ev none e 13 253 [some (.ref L), some (.ref Ot), some (.int k)] [] (wF M L 16 (zI M Ot 16)) v M' 0 0 := by
  have H : Ev none e 13 247 [some (.ref L), some (.ref Ot), some (.int k)] [.ref Ot, .ref L] M v M' 0 0 := Ev.back 2 (fun n => rfl) H
  have H : Ev none e 13 250 [some (.ref L), some (.ref Ot), some (.int k)] [.int (zI M Ot 16), .ref L] M v M' 0 0 := Ev.back 1 (gs_3 rfl rfl (gf_i hS.1 a_Ot qi_8_16 rfl)) H
  obtain ⟨N2, eN2⟩ : ∃ N, N = (wF M L 16 (zI M Ot 16)) := ⟨_, rfl⟩
  have hN2 : SQ N2 := by rw [eN2]; exact hS.kf
  have H : Ev none e 13 253 [some (.ref L), some (.ref Ot), some (.int k)] [] N2 v M' 0 0 := by rw [eN2]; exact Ev.pfi rfl rfl rfl hS.1 a_L qi_8_16 H
  have HF := H
  subst eN2
  exact HF
theorem cpy_253 {e : Nat} {M M' : Mem} {v : Option Value} {k : Int32} {L Ot : Nat} (hS : SQ M) (a_L : gNth sT L = some 8) (a_Ot : gNth sT Ot = some 8) (H : Ev none e 13 253 [some (.ref L), some (.ref Ot), some (.int k)] [] M v M' 0 0) : Ev none e 13 261 [some (.ref L), some (.ref Ot), some (.int k)] [] (wF M L 17 (zI M Ot 17)) v M' 0 0 := by
  have H : Ev none e 13 255 [some (.ref L), some (.ref Ot), some (.int k)] [.ref Ot, .ref L] M v M' 0 0 := Ev.back 2 (fun n => rfl) H
  have H : Ev none e 13 258 [some (.ref L), some (.ref Ot), some (.int k)] [.int (zI M Ot 17), .ref L] M v M' 0 0 := Ev.back 1 (gs_3 rfl rfl (gf_i hS.1 a_Ot qi_8_17 rfl)) H
  obtain ⟨N2, eN2⟩ : ∃ N, N = (wF M L 17 (zI M Ot 17)) := ⟨_, rfl⟩
  have hN2 : SQ N2 := by rw [eN2]; exact hS.kf
  have H : Ev none e 13 261 [some (.ref L), some (.ref Ot), some (.int k)] [] N2 v M' 0 0 := by rw [eN2]; exact Ev.pfi rfl rfl rfl hS.1 a_L qi_8_17 H
  have HF := H
  subst eN2
  exact HF
theorem cpy_261 {e : Nat} {M M' : Mem} {v : Option Value} {k : Int32} {L Ot : Nat} (hS : SQ M) (a_L : gNth sT L = some 8) (a_Ot : gNth sT Ot = some 8) (H : Ev none e 13 261 [some (.ref L), some (.ref Ot), some (.int k)] [] M v M' 0 0) : Ev none e 13 269 [some (.ref L), some (.ref Ot), some (.int k)] [] (wF M L 18 (zI M Ot 18)) v M' 0 0 := by
  have H : Ev none e 13 263 [some (.ref L), some (.ref Ot), some (.int k)] [.ref Ot, .ref L] M v M' 0 0 := Ev.back 2 (fun n => rfl) H
  have H : Ev none e 13 266 [some (.ref L), some (.ref Ot), some (.int k)] [.int (zI M Ot 18), .ref L] M v M' 0 0 := Ev.back 1 (gs_3 rfl rfl (gf_i hS.1 a_Ot qi_8_18 rfl)) H
  obtain ⟨N2, eN2⟩ : ∃ N, N = (wF M L 18 (zI M Ot 18)) := ⟨_, rfl⟩
  have hN2 : SQ N2 := by rw [eN2]; exact hS.kf
  have H : Ev none e 13 269 [some (.ref L), some (.ref Ot), some (.int k)] [] N2 v M' 0 0 := by rw [eN2]; exact Ev.pfi rfl rfl rfl hS.1 a_L qi_8_18 H
  have HF := H
  subst eN2
  exact HF
theorem cpy_269 {e : Nat} {M M' : Mem} {v : Option Value} {k : Int32} {L Ot : Nat} (hS : SQ M) (a_L : gNth sT L = some 8) (a_Ot : gNth sT Ot = some 8) (H : Ev none e 13 269 [some (.ref L), some (.ref Ot), some (.int k)] [] M v M' 0 0) : v = none ∧ M' = (wF M L 19 (zI M Ot 19)) := by
  have H : Ev none e 13 271 [some (.ref L), some (.ref Ot), some (.int k)] [.ref Ot, .ref L] M v M' 0 0 := Ev.back 2 (fun n => rfl) H
  have H : Ev none e 13 274 [some (.ref L), some (.ref Ot), some (.int k)] [.int (zI M Ot 19), .ref L] M v M' 0 0 := Ev.back 1 (gs_3 rfl rfl (gf_i hS.1 a_Ot qi_8_19 rfl)) H
  obtain ⟨N2, eN2⟩ : ∃ N, N = (wF M L 19 (zI M Ot 19)) := ⟨_, rfl⟩
  have hN2 : SQ N2 := by rw [eN2]; exact hS.kf
  have H : Ev none e 13 277 [some (.ref L), some (.ref Ot), some (.int k)] [] N2 v M' 0 0 := by rw [eN2]; exact Ev.pfi rfl rfl rfl hS.1 a_L qi_8_19 H
  obtain ⟨z1, z2⟩ := Ev.retb (fun n => rfl) H
  subst eN2
  exact ⟨z1, z2⟩
theorem cpx_0 {e : Nat} {M M' : Mem} {v : Option Value} {x y : Nat} (hS : SQ M) (a_x : gNth sT x = some 20) (a_y : gNth sT y = some 20) (H : Ev none e 77 0 [some (.ref x), some (.ref y)] [] M v M' 0 0) : v = none ∧ M' = (wF (wF (wF (wF (wF (wF M x 0 (zI M y 0)) x 1 (zI M y 1)) x 2 (zI M y 2)) x 3 (zI M y 3)) x 4 (zI M y 4)) x 5 (zI M y 5)) := by
  have H : Ev none e 77 2 [some (.ref x), some (.ref y)] [.ref y, .ref x] M v M' 0 0 := Ev.back 2 (fun n => rfl) H
  have H : Ev none e 77 5 [some (.ref x), some (.ref y)] [.int (zI M y 0), .ref x] M v M' 0 0 := Ev.back 1 (gs_3 rfl rfl (gf_i hS.1 a_y qi_20_0 rfl)) H
  obtain ⟨N2, eN2⟩ : ∃ N, N = (wF M x 0 (zI M y 0)) := ⟨_, rfl⟩
  have hN2 : SQ N2 := by rw [eN2]; exact hS.kf
  have H : Ev none e 77 8 [some (.ref x), some (.ref y)] [] N2 v M' 0 0 := by rw [eN2]; exact Ev.pfi rfl rfl rfl hS.1 a_x qi_20_0 H
  have H : Ev none e 77 10 [some (.ref x), some (.ref y)] [.ref y, .ref x] N2 v M' 0 0 := Ev.back 2 (fun n => rfl) H
  have H : Ev none e 77 13 [some (.ref x), some (.ref y)] [.int (zI N2 y 1), .ref x] N2 v M' 0 0 := Ev.back 1 (gs_3 rfl rfl (gf_i hN2.1 a_y qi_20_1 rfl)) H
  rw [show zI N2 y 1 = zI M y 1 from by rw [eN2]; exact fI_wF_ne (fun q => absurd q.2 (by decide))] at H
  obtain ⟨N4, eN4⟩ : ∃ N, N = (wF N2 x 1 (zI M y 1)) := ⟨_, rfl⟩
  have hN4 : SQ N4 := by rw [eN4]; exact hN2.kf
  have H : Ev none e 77 16 [some (.ref x), some (.ref y)] [] N4 v M' 0 0 := by rw [eN4]; exact Ev.pfi rfl rfl rfl hN2.1 a_x qi_20_1 H
  have H : Ev none e 77 18 [some (.ref x), some (.ref y)] [.ref y, .ref x] N4 v M' 0 0 := Ev.back 2 (fun n => rfl) H
  have H : Ev none e 77 21 [some (.ref x), some (.ref y)] [.int (zI N4 y 2), .ref x] N4 v M' 0 0 := Ev.back 1 (gs_3 rfl rfl (gf_i hN4.1 a_y qi_20_2 rfl)) H
  rw [(show zI N4 y 2 = zI N2 y 2 from by rw [eN4]; exact fI_wF_ne (fun q => absurd q.2 (by decide))).trans (show zI N2 y 2 = zI M y 2 from by rw [eN2]; exact fI_wF_ne (fun q => absurd q.2 (by decide)))] at H
  obtain ⟨N6, eN6⟩ : ∃ N, N = (wF N4 x 2 (zI M y 2)) := ⟨_, rfl⟩
  have hN6 : SQ N6 := by rw [eN6]; exact hN4.kf
  have H : Ev none e 77 24 [some (.ref x), some (.ref y)] [] N6 v M' 0 0 := by rw [eN6]; exact Ev.pfi rfl rfl rfl hN4.1 a_x qi_20_2 H
  have H : Ev none e 77 26 [some (.ref x), some (.ref y)] [.ref y, .ref x] N6 v M' 0 0 := Ev.back 2 (fun n => rfl) H
  have H : Ev none e 77 29 [some (.ref x), some (.ref y)] [.int (zI N6 y 3), .ref x] N6 v M' 0 0 := Ev.back 1 (gs_3 rfl rfl (gf_i hN6.1 a_y qi_20_3 rfl)) H
  rw [((show zI N6 y 3 = zI N4 y 3 from by rw [eN6]; exact fI_wF_ne (fun q => absurd q.2 (by decide))).trans (show zI N4 y 3 = zI N2 y 3 from by rw [eN4]; exact fI_wF_ne (fun q => absurd q.2 (by decide)))).trans (show zI N2 y 3 = zI M y 3 from by rw [eN2]; exact fI_wF_ne (fun q => absurd q.2 (by decide)))] at H
  obtain ⟨N8, eN8⟩ : ∃ N, N = (wF N6 x 3 (zI M y 3)) := ⟨_, rfl⟩
  have hN8 : SQ N8 := by rw [eN8]; exact hN6.kf
  have H : Ev none e 77 32 [some (.ref x), some (.ref y)] [] N8 v M' 0 0 := by rw [eN8]; exact Ev.pfi rfl rfl rfl hN6.1 a_x qi_20_3 H
  have H : Ev none e 77 34 [some (.ref x), some (.ref y)] [.ref y, .ref x] N8 v M' 0 0 := Ev.back 2 (fun n => rfl) H
  have H : Ev none e 77 37 [some (.ref x), some (.ref y)] [.int (zI N8 y 4), .ref x] N8 v M' 0 0 := Ev.back 1 (gs_3 rfl rfl (gf_i hN8.1 a_y qi_20_4 rfl)) H
  rw [(((show zI N8 y 4 = zI N6 y 4 from by rw [eN8]; exact fI_wF_ne (fun q => absurd q.2 (by decide))).trans (show zI N6 y 4 = zI N4 y 4 from by rw [eN6]; exact fI_wF_ne (fun q => absurd q.2 (by decide)))).trans (show zI N4 y 4 = zI N2 y 4 from by rw [eN4]; exact fI_wF_ne (fun q => absurd q.2 (by decide)))).trans (show zI N2 y 4 = zI M y 4 from by rw [eN2]; exact fI_wF_ne (fun q => absurd q.2 (by decide)))] at H
  obtain ⟨N10, eN10⟩ : ∃ N, N = (wF N8 x 4 (zI M y 4)) := ⟨_, rfl⟩
  have hN10 : SQ N10 := by rw [eN10]; exact hN8.kf
  have H : Ev none e 77 40 [some (.ref x), some (.ref y)] [] N10 v M' 0 0 := by rw [eN10]; exact Ev.pfi rfl rfl rfl hN8.1 a_x qi_20_4 H
  have H : Ev none e 77 42 [some (.ref x), some (.ref y)] [.ref y, .ref x] N10 v M' 0 0 := Ev.back 2 (fun n => rfl) H
  have H : Ev none e 77 45 [some (.ref x), some (.ref y)] [.int (zI N10 y 5), .ref x] N10 v M' 0 0 := Ev.back 1 (gs_3 rfl rfl (gf_i hN10.1 a_y qi_20_5 rfl)) H
  rw [((((show zI N10 y 5 = zI N8 y 5 from by rw [eN10]; exact fI_wF_ne (fun q => absurd q.2 (by decide))).trans (show zI N8 y 5 = zI N6 y 5 from by rw [eN8]; exact fI_wF_ne (fun q => absurd q.2 (by decide)))).trans (show zI N6 y 5 = zI N4 y 5 from by rw [eN6]; exact fI_wF_ne (fun q => absurd q.2 (by decide)))).trans (show zI N4 y 5 = zI N2 y 5 from by rw [eN4]; exact fI_wF_ne (fun q => absurd q.2 (by decide)))).trans (show zI N2 y 5 = zI M y 5 from by rw [eN2]; exact fI_wF_ne (fun q => absurd q.2 (by decide)))] at H
  obtain ⟨N12, eN12⟩ : ∃ N, N = (wF N10 x 5 (zI M y 5)) := ⟨_, rfl⟩
  have hN12 : SQ N12 := by rw [eN12]; exact hN10.kf
  have H : Ev none e 77 48 [some (.ref x), some (.ref y)] [] N12 v M' 0 0 := by rw [eN12]; exact Ev.pfi rfl rfl rfl hN10.1 a_x qi_20_5 H
  obtain ⟨z1, z2⟩ := Ev.retb (fun n => rfl) H
  subst eN2 eN4 eN6 eN8 eN10 eN12
  exact ⟨z1, z2⟩
theorem cpb_0 {e : Nat} {M M' : Mem} {v : Option Value} {b d : Nat} (hS : SQ M) (a_b : gNth sT b = some 21) (a_d : gNth sT d = some 21) (H : Ev none e 75 0 [some (.ref b), some (.ref d)] [] M v M' 0 0) : v = none ∧ M' = (wF (wF (wF (wF (wF M b 0 (zI M d 0)) b 1 (zI M d 1)) b 2 (zI M d 2)) b 3 (zI M d 3)) b 4 (zI M d 4)) := by
  have H : Ev none e 75 2 [some (.ref b), some (.ref d)] [.ref d, .ref b] M v M' 0 0 := Ev.back 2 (fun n => rfl) H
  have H : Ev none e 75 5 [some (.ref b), some (.ref d)] [.int (zI M d 0), .ref b] M v M' 0 0 := Ev.back 1 (gs_3 rfl rfl (gf_i hS.1 a_d qi_21_0 rfl)) H
  obtain ⟨N2, eN2⟩ : ∃ N, N = (wF M b 0 (zI M d 0)) := ⟨_, rfl⟩
  have hN2 : SQ N2 := by rw [eN2]; exact hS.kf
  have H : Ev none e 75 8 [some (.ref b), some (.ref d)] [] N2 v M' 0 0 := by rw [eN2]; exact Ev.pfi rfl rfl rfl hS.1 a_b qi_21_0 H
  have H : Ev none e 75 10 [some (.ref b), some (.ref d)] [.ref d, .ref b] N2 v M' 0 0 := Ev.back 2 (fun n => rfl) H
  have H : Ev none e 75 13 [some (.ref b), some (.ref d)] [.int (zI N2 d 1), .ref b] N2 v M' 0 0 := Ev.back 1 (gs_3 rfl rfl (gf_i hN2.1 a_d qi_21_1 rfl)) H
  rw [show zI N2 d 1 = zI M d 1 from by rw [eN2]; exact fI_wF_ne (fun q => absurd q.2 (by decide))] at H
  obtain ⟨N4, eN4⟩ : ∃ N, N = (wF N2 b 1 (zI M d 1)) := ⟨_, rfl⟩
  have hN4 : SQ N4 := by rw [eN4]; exact hN2.kf
  have H : Ev none e 75 16 [some (.ref b), some (.ref d)] [] N4 v M' 0 0 := by rw [eN4]; exact Ev.pfi rfl rfl rfl hN2.1 a_b qi_21_1 H
  have H : Ev none e 75 18 [some (.ref b), some (.ref d)] [.ref d, .ref b] N4 v M' 0 0 := Ev.back 2 (fun n => rfl) H
  have H : Ev none e 75 21 [some (.ref b), some (.ref d)] [.int (zI N4 d 2), .ref b] N4 v M' 0 0 := Ev.back 1 (gs_3 rfl rfl (gf_i hN4.1 a_d qi_21_2 rfl)) H
  rw [(show zI N4 d 2 = zI N2 d 2 from by rw [eN4]; exact fI_wF_ne (fun q => absurd q.2 (by decide))).trans (show zI N2 d 2 = zI M d 2 from by rw [eN2]; exact fI_wF_ne (fun q => absurd q.2 (by decide)))] at H
  obtain ⟨N6, eN6⟩ : ∃ N, N = (wF N4 b 2 (zI M d 2)) := ⟨_, rfl⟩
  have hN6 : SQ N6 := by rw [eN6]; exact hN4.kf
  have H : Ev none e 75 24 [some (.ref b), some (.ref d)] [] N6 v M' 0 0 := by rw [eN6]; exact Ev.pfi rfl rfl rfl hN4.1 a_b qi_21_2 H
  have H : Ev none e 75 26 [some (.ref b), some (.ref d)] [.ref d, .ref b] N6 v M' 0 0 := Ev.back 2 (fun n => rfl) H
  have H : Ev none e 75 29 [some (.ref b), some (.ref d)] [.int (zI N6 d 3), .ref b] N6 v M' 0 0 := Ev.back 1 (gs_3 rfl rfl (gf_i hN6.1 a_d qi_21_3 rfl)) H
  rw [((show zI N6 d 3 = zI N4 d 3 from by rw [eN6]; exact fI_wF_ne (fun q => absurd q.2 (by decide))).trans (show zI N4 d 3 = zI N2 d 3 from by rw [eN4]; exact fI_wF_ne (fun q => absurd q.2 (by decide)))).trans (show zI N2 d 3 = zI M d 3 from by rw [eN2]; exact fI_wF_ne (fun q => absurd q.2 (by decide)))] at H
  obtain ⟨N8, eN8⟩ : ∃ N, N = (wF N6 b 3 (zI M d 3)) := ⟨_, rfl⟩
  have hN8 : SQ N8 := by rw [eN8]; exact hN6.kf
  have H : Ev none e 75 32 [some (.ref b), some (.ref d)] [] N8 v M' 0 0 := by rw [eN8]; exact Ev.pfi rfl rfl rfl hN6.1 a_b qi_21_3 H
  have H : Ev none e 75 34 [some (.ref b), some (.ref d)] [.ref d, .ref b] N8 v M' 0 0 := Ev.back 2 (fun n => rfl) H
  have H : Ev none e 75 37 [some (.ref b), some (.ref d)] [.int (zI N8 d 4), .ref b] N8 v M' 0 0 := Ev.back 1 (gs_3 rfl rfl (gf_i hN8.1 a_d qi_21_4 rfl)) H
  rw [(((show zI N8 d 4 = zI N6 d 4 from by rw [eN8]; exact fI_wF_ne (fun q => absurd q.2 (by decide))).trans (show zI N6 d 4 = zI N4 d 4 from by rw [eN6]; exact fI_wF_ne (fun q => absurd q.2 (by decide)))).trans (show zI N4 d 4 = zI N2 d 4 from by rw [eN4]; exact fI_wF_ne (fun q => absurd q.2 (by decide)))).trans (show zI N2 d 4 = zI M d 4 from by rw [eN2]; exact fI_wF_ne (fun q => absurd q.2 (by decide)))] at H
  obtain ⟨N10, eN10⟩ : ∃ N, N = (wF N8 b 4 (zI M d 4)) := ⟨_, rfl⟩
  have hN10 : SQ N10 := by rw [eN10]; exact hN8.kf
  have H : Ev none e 75 40 [some (.ref b), some (.ref d)] [] N10 v M' 0 0 := by rw [eN10]; exact Ev.pfi rfl rfl rfl hN8.1 a_b qi_21_4 H
  obtain ⟨z1, z2⟩ := Ev.retb (fun n => rfl) H
  subst eN2 eN4 eN6 eN8 eN10
  exact ⟨z1, z2⟩
theorem rnw_0 {e : Nat} {M M' : Mem} {v : Option Value} {wi de : Int32} {L : Nat} (hS : SQ M) (a_L : gNth sT L = some 8) (H : Ev none e 12 0 [some (.ref L), some (.int wi), some (.int de), some (.ref 1), none, none] [] M v M' 0 0) : Ev none e 12 13 [some (.ref L), some (.int wi), some (.int de), some (.ref 1), some (.int 0), none] [] (wF (wF M L 0 wi) L 1 de) v M' 0 0 := by
  have H : Ev none e 12 2 [some (.ref L), some (.int wi), some (.int de), some (.ref 1), none, none] [.int wi, .ref L] M v M' 0 0 := Ev.back 2 (fun n => rfl) H
  obtain ⟨N2, eN2⟩ : ∃ N, N = (wF M L 0 wi) := ⟨_, rfl⟩
  have hN2 : SQ N2 := by rw [eN2]; exact hS.kf
  have H : Ev none e 12 5 [some (.ref L), some (.int wi), some (.int de), some (.ref 1), none, none] [] N2 v M' 0 0 := by rw [eN2]; exact Ev.pfi rfl rfl rfl hS.1 a_L qi_8_0 H
  have H : Ev none e 12 7 [some (.ref L), some (.int wi), some (.int de), some (.ref 1), none, none] [.int de, .ref L] N2 v M' 0 0 := Ev.back 2 (fun n => rfl) H
  obtain ⟨N4, eN4⟩ : ∃ N, N = (wF N2 L 1 de) := ⟨_, rfl⟩
  have hN4 : SQ N4 := by rw [eN4]; exact hN2.kf
  have H : Ev none e 12 10 [some (.ref L), some (.int wi), some (.int de), some (.ref 1), none, none] [] N4 v M' 0 0 := by rw [eN4]; exact Ev.pfi rfl rfl rfl hN2.1 a_L qi_8_1 H
  have H : Ev none e 12 13 [some (.ref L), some (.int wi), some (.int de), some (.ref 1), some (.int 0), none] [] N4 v M' 0 0 := Ev.back 2 (fun n => rfl) H
  have HF := H
  subst eN2 eN4
  exact HF
theorem rnw_13 {e : Nat} {M M' : Mem} {v : Option Value} {wi de k : Int32} {L : Nat} {c5 : Option Value} (hS : SQ M) (a_L : gNth sT L = some 8) (H : Ev none e 12 13 [some (.ref L), some (.int wi), some (.int de), some (.ref 1), some (.int k), c5] [] M v M' 0 0) : (((zI M L 0) * (zI M L 1)) ≤ k ∧ Ev none e 12 86 [some (.ref L), some (.int wi), some (.int de), some (.ref 1), some (.int k), c5] [] M v M' 0 0) ∨ (¬ (((zI M L 0) * (zI M L 1)) ≤ k) ∧ 256 ≤ k ∧ Ev none e 12 86 [some (.ref L), some (.int wi), some (.int de), some (.ref 1), some (.int k), c5] [] M v M' 0 0) ∨ (¬ (((zI M L 0) * (zI M L 1)) ≤ k) ∧ ¬ (256 ≤ k) ∧ (0 ≤ k.toInt ∧ k.toInt < 440) ∧ (0 ≤ k.toInt ∧ k.toInt < 256) ∧ (0 ≤ k.toInt ∧ k.toInt < 256) ∧ (0 ≤ k.toInt ∧ k.toInt < 256) ∧ Ev none e 12 13 [some (.ref L), some (.int wi), some (.int de), some (.ref 1), some (.int (k + 1)), some (.int (rI M 2 k))] [] (wI (wI (wI M (L + 1) k.toNatClampNeg ((rI M 2 k) &&& 7)) (L + 2) k.toNatClampNeg (((rI M 2 k) >>> ((3 : Int32) &&& 31)) &&& 1)) (L + 3) k.toNatClampNeg ((rI M 2 k) >>> ((4 : Int32) &&& 31))) v M' 0 0) := by
  have H : Ev none e 12 16 [some (.ref L), some (.int wi), some (.int de), some (.ref 1), some (.int k), c5] [.ref L, .int k] M v M' 0 0 := Ev.back 2 (fun n => rfl) H
  have H : Ev none e 12 19 [some (.ref L), some (.int wi), some (.int de), some (.ref 1), some (.int k), c5] [.int (zI M L 0), .int k] M v M' 0 0 := Ev.back 1 (gs_3 rfl rfl (gf_i hS.1 a_L qi_8_0 rfl)) H
  have H : Ev none e 12 20 [some (.ref L), some (.int wi), some (.int de), some (.ref 1), some (.int k), c5] [.ref L, .int (zI M L 0), .int k] M v M' 0 0 := Ev.back 1 (fun n => rfl) H
  have H : Ev none e 12 23 [some (.ref L), some (.int wi), some (.int de), some (.ref 1), some (.int k), c5] [.int (zI M L 1), .int (zI M L 0), .int k] M v M' 0 0 := Ev.back 1 (gs_3 rfl rfl (gf_i hS.1 a_L qi_8_1 rfl)) H
  have H : Ev none e 12 (if ((zI M L 0) * (zI M L 1)) ≤ k then 86 else 27) [some (.ref L), some (.int wi), some (.int de), some (.ref 1), some (.int k), c5] [] M v M' 0 0 := Ev.back 2 (fun n => rfl) H
  by_cases h1 : ((zI M L 0) * (zI M L 1)) ≤ k
  · rw [if_pos h1] at H
    have HF := H
    exact Or.inl ⟨h1, HF⟩
  · rw [if_neg h1] at H
    have H : Ev none e 12 (if 256 ≤ k then 86 else 35) [some (.ref L), some (.int wi), some (.int de), some (.ref 1), some (.int k), c5] [] M v M' 0 0 := Ev.back 3 (fun n => rfl) H
    by_cases h2 : 256 ≤ k
    · rw [if_pos h2] at H
      have HF := H
      exact Or.inr (Or.inl ⟨h1, h2, HF⟩)
    · rw [if_neg h2] at H
      have H : Ev none e 12 36 [some (.ref L), some (.int wi), some (.int de), some (.ref 1), some (.int k), c5] [.ref 1] M v M' 0 0 := Ev.back 1 (fun n => rfl) H
      have H : Ev none e 12 39 [some (.ref L), some (.int wi), some (.int de), some (.ref 1), some (.int k), c5] [.ref 2] M v M' 0 0 := Ev.back 1 (gs_3 rfl rfl (gf_u hS.1 qa_1 qr_1_0 qu_2 rfl)) H
      have H : Ev none e 12 41 [some (.ref L), some (.int wi), some (.int de), some (.ref 1), some (.int k), c5] [.int k, .ref 2] M v M' 0 0 := Ev.back 1 (fun n => rfl) H
      obtain ⟨b3, H⟩ := Ev.ial rfl rfl hS.1 qa_2 qw_2 H
      have H : Ev none e 12 42 [some (.ref L), some (.int wi), some (.int de), some (.ref 1), some (.int k), c5] [.int (rI M 2 k)] M v M' 0 0 := H
      have H : Ev none e 12 45 [some (.ref L), some (.int wi), some (.int de), some (.ref 1), some (.int k), some (.int (rI M 2 k))] [.ref L] M v M' 0 0 := Ev.back 2 (fun n => rfl) H
      have H : Ev none e 12 48 [some (.ref L), some (.int wi), some (.int de), some (.ref 1), some (.int k), some (.int (rI M 2 k))] [.ref (L + 1)] M v M' 0 0 := Ev.back 1 (gs_3 rfl rfl (gf_x hS.1 a_L qo_8 (fx_l2 hS a_L) rfl)) H
      have H : Ev none e 12 55 [some (.ref L), some (.int wi), some (.int de), some (.ref 1), some (.int k), some (.int (rI M 2 k))] [.int ((rI M 2 k) &&& 7), .int k, .ref (L + 1)] M v M' 0 0 := Ev.back 4 (fun n => rfl) H
      obtain ⟨b4, H⟩ := Ev.ias rfl rfl hS.1 (fx_h2 a_L) qw_9 H
      obtain ⟨N5, eN5⟩ : ∃ N, N = (wI M (L + 1) k.toNatClampNeg ((rI M 2 k) &&& 7)) := ⟨_, rfl⟩
      have hN5 : SQ N5 := by rw [eN5]; exact hS.ki
      have H : Ev none e 12 56 [some (.ref L), some (.int wi), some (.int de), some (.ref 1), some (.int k), some (.int (rI M 2 k))] [] N5 v M' 0 0 := by rw [eN5]; exact H
      have H : Ev none e 12 57 [some (.ref L), some (.int wi), some (.int de), some (.ref 1), some (.int k), some (.int (rI M 2 k))] [.ref L] N5 v M' 0 0 := Ev.back 1 (fun n => rfl) H
      have H : Ev none e 12 60 [some (.ref L), some (.int wi), some (.int de), some (.ref 1), some (.int k), some (.int (rI M 2 k))] [.ref (L + 2)] N5 v M' 0 0 := Ev.back 1 (gs_3 rfl rfl (gf_x hN5.1 a_L qo_8 (fx_l3 hN5 a_L) rfl)) H
      have H : Ev none e 12 68 [some (.ref L), some (.int wi), some (.int de), some (.ref 1), some (.int k), some (.int (rI M 2 k))] [.int (((rI M 2 k) >>> ((3 : Int32) &&& 31)) &&& 1), .int k, .ref (L + 2)] N5 v M' 0 0 := Ev.back 6 (fun n => rfl) H
      obtain ⟨b6, H⟩ := Ev.ias rfl rfl hN5.1 (fx_h3 a_L) qw_10 H
      obtain ⟨N7, eN7⟩ : ∃ N, N = (wI N5 (L + 2) k.toNatClampNeg (((rI M 2 k) >>> ((3 : Int32) &&& 31)) &&& 1)) := ⟨_, rfl⟩
      have hN7 : SQ N7 := by rw [eN7]; exact hN5.ki
      have H : Ev none e 12 69 [some (.ref L), some (.int wi), some (.int de), some (.ref 1), some (.int k), some (.int (rI M 2 k))] [] N7 v M' 0 0 := by rw [eN7]; exact H
      have H : Ev none e 12 70 [some (.ref L), some (.int wi), some (.int de), some (.ref 1), some (.int k), some (.int (rI M 2 k))] [.ref L] N7 v M' 0 0 := Ev.back 1 (fun n => rfl) H
      have H : Ev none e 12 73 [some (.ref L), some (.int wi), some (.int de), some (.ref 1), some (.int k), some (.int (rI M 2 k))] [.ref (L + 3)] N7 v M' 0 0 := Ev.back 1 (gs_3 rfl rfl (gf_x hN7.1 a_L qo_8 (fx_l4 hN7 a_L) rfl)) H
      have H : Ev none e 12 79 [some (.ref L), some (.int wi), some (.int de), some (.ref 1), some (.int k), some (.int (rI M 2 k))] [.int ((rI M 2 k) >>> ((4 : Int32) &&& 31)), .int k, .ref (L + 3)] N7 v M' 0 0 := Ev.back 4 (fun n => rfl) H
      obtain ⟨b8, H⟩ := Ev.ias rfl rfl hN7.1 (fx_h4 a_L) qw_11 H
      obtain ⟨N9, eN9⟩ : ∃ N, N = (wI N7 (L + 3) k.toNatClampNeg ((rI M 2 k) >>> ((4 : Int32) &&& 31))) := ⟨_, rfl⟩
      have hN9 : SQ N9 := by rw [eN9]; exact hN7.ki
      have H : Ev none e 12 80 [some (.ref L), some (.int wi), some (.int de), some (.ref 1), some (.int k), some (.int (rI M 2 k))] [] N9 v M' 0 0 := by rw [eN9]; exact H
      have H : Ev none e 12 13 [some (.ref L), some (.int wi), some (.int de), some (.ref 1), some (.int (k + 1)), some (.int (rI M 2 k))] [] N9 v M' 0 0 := Ev.back 2 (fun n => rfl) H
      have HF := H
      subst eN5 eN7 eN9
      exact Or.inr (Or.inr (⟨h1, h2, b3, b4, b6, b8, HF⟩))
theorem rnw_86 {e : Nat} {M M' : Mem} {v : Option Value} {wi de k : Int32} {L : Nat} {c5 : Option Value} (hS : SQ M) (a_L : gNth sT L = some 8) (H : Ev none e 12 86 [some (.ref L), some (.int wi), some (.int de), some (.ref 1), some (.int k), c5] [] M v M' 0 0) : v = none ∧ M' = (wF (wF (wF (wF (wF (wF (wF (wA (wA (wA (wA (wA M (L + 4) 0) (L + 5) 0) (L + 6) 0) (L + 7) 0) (L + 8) 0) L 11 0) L 13 0) L 15 0) L 16 0) L 17 0) L 18 0) L 19 0) := by
  have H : Ev none e 12 87 [some (.ref L), some (.int wi), some (.int de), some (.ref 1), some (.int k), c5] [.ref L] M v M' 0 0 := Ev.back 1 (fun n => rfl) H
  have H : Ev none e 12 90 [some (.ref L), some (.int wi), some (.int de), some (.ref 1), some (.int k), c5] [.ref (L + 4)] M v M' 0 0 := Ev.back 1 (gs_3 rfl rfl (gf_x hS.1 a_L qo_8 (fx_l5 hS a_L) rfl)) H
  have H : Ev none e 12 91 [some (.ref L), some (.int wi), some (.int de), some (.ref 1), some (.int k), c5] [.int 0, .ref (L + 4)] M v M' 0 0 := Ev.back 1 (fun n => rfl) H
  have H := Ev.fil rfl rfl (fun _ _ => rfl) hS.1 (fx_h5 a_L) qw_12 H
  obtain ⟨N1, eN1⟩ : ∃ N, N = (wA M (L + 4) 0) := ⟨_, rfl⟩
  have hN1 : SQ N1 := by rw [eN1]; exact hS.ka
  have H : Ev none e 12 94 [some (.ref L), some (.int wi), some (.int de), some (.ref 1), some (.int k), c5] [] N1 v M' 0 0 := by rw [eN1]; exact H
  have H : Ev none e 12 95 [some (.ref L), some (.int wi), some (.int de), some (.ref 1), some (.int k), c5] [.ref L] N1 v M' 0 0 := Ev.back 1 (fun n => rfl) H
  have H : Ev none e 12 98 [some (.ref L), some (.int wi), some (.int de), some (.ref 1), some (.int k), c5] [.ref (L + 5)] N1 v M' 0 0 := Ev.back 1 (gs_3 rfl rfl (gf_x hN1.1 a_L qo_8 (fx_l6 hN1 a_L) rfl)) H
  have H : Ev none e 12 99 [some (.ref L), some (.int wi), some (.int de), some (.ref 1), some (.int k), c5] [.int 0, .ref (L + 5)] N1 v M' 0 0 := Ev.back 1 (fun n => rfl) H
  have H := Ev.fil rfl rfl (fun _ _ => rfl) hN1.1 (fx_h6 a_L) qw_13 H
  obtain ⟨N2, eN2⟩ : ∃ N, N = (wA N1 (L + 5) 0) := ⟨_, rfl⟩
  have hN2 : SQ N2 := by rw [eN2]; exact hN1.ka
  have H : Ev none e 12 102 [some (.ref L), some (.int wi), some (.int de), some (.ref 1), some (.int k), c5] [] N2 v M' 0 0 := by rw [eN2]; exact H
  have H : Ev none e 12 103 [some (.ref L), some (.int wi), some (.int de), some (.ref 1), some (.int k), c5] [.ref L] N2 v M' 0 0 := Ev.back 1 (fun n => rfl) H
  have H : Ev none e 12 106 [some (.ref L), some (.int wi), some (.int de), some (.ref 1), some (.int k), c5] [.ref (L + 6)] N2 v M' 0 0 := Ev.back 1 (gs_3 rfl rfl (gf_x hN2.1 a_L qo_8 (fx_l7 hN2 a_L) rfl)) H
  have H : Ev none e 12 107 [some (.ref L), some (.int wi), some (.int de), some (.ref 1), some (.int k), c5] [.int 0, .ref (L + 6)] N2 v M' 0 0 := Ev.back 1 (fun n => rfl) H
  have H := Ev.fil rfl rfl (fun _ _ => rfl) hN2.1 (fx_h7 a_L) qw_14 H
  obtain ⟨N3, eN3⟩ : ∃ N, N = (wA N2 (L + 6) 0) := ⟨_, rfl⟩
  have hN3 : SQ N3 := by rw [eN3]; exact hN2.ka
  have H : Ev none e 12 110 [some (.ref L), some (.int wi), some (.int de), some (.ref 1), some (.int k), c5] [] N3 v M' 0 0 := by rw [eN3]; exact H
  have H : Ev none e 12 111 [some (.ref L), some (.int wi), some (.int de), some (.ref 1), some (.int k), c5] [.ref L] N3 v M' 0 0 := Ev.back 1 (fun n => rfl) H
  have H : Ev none e 12 114 [some (.ref L), some (.int wi), some (.int de), some (.ref 1), some (.int k), c5] [.ref (L + 7)] N3 v M' 0 0 := Ev.back 1 (gs_3 rfl rfl (gf_x hN3.1 a_L qo_8 (fx_l8 hN3 a_L) rfl)) H
  have H : Ev none e 12 115 [some (.ref L), some (.int wi), some (.int de), some (.ref 1), some (.int k), c5] [.int 0, .ref (L + 7)] N3 v M' 0 0 := Ev.back 1 (fun n => rfl) H
  have H := Ev.fil rfl rfl (fun _ _ => rfl) hN3.1 (fx_h8 a_L) qw_15 H
  obtain ⟨N4, eN4⟩ : ∃ N, N = (wA N3 (L + 7) 0) := ⟨_, rfl⟩
  have hN4 : SQ N4 := by rw [eN4]; exact hN3.ka
  have H : Ev none e 12 118 [some (.ref L), some (.int wi), some (.int de), some (.ref 1), some (.int k), c5] [] N4 v M' 0 0 := by rw [eN4]; exact H
  have H : Ev none e 12 119 [some (.ref L), some (.int wi), some (.int de), some (.ref 1), some (.int k), c5] [.ref L] N4 v M' 0 0 := Ev.back 1 (fun n => rfl) H
  have H : Ev none e 12 122 [some (.ref L), some (.int wi), some (.int de), some (.ref 1), some (.int k), c5] [.ref (L + 8)] N4 v M' 0 0 := Ev.back 1 (gs_3 rfl rfl (gf_x hN4.1 a_L qo_8 (fx_l9 hN4 a_L) rfl)) H
  have H : Ev none e 12 123 [some (.ref L), some (.int wi), some (.int de), some (.ref 1), some (.int k), c5] [.int 0, .ref (L + 8)] N4 v M' 0 0 := Ev.back 1 (fun n => rfl) H
  have H := Ev.fil rfl rfl (fun _ _ => rfl) hN4.1 (fx_h9 a_L) qw_16 H
  obtain ⟨N5, eN5⟩ : ∃ N, N = (wA N4 (L + 8) 0) := ⟨_, rfl⟩
  have hN5 : SQ N5 := by rw [eN5]; exact hN4.ka
  have H : Ev none e 12 126 [some (.ref L), some (.int wi), some (.int de), some (.ref 1), some (.int k), c5] [] N5 v M' 0 0 := by rw [eN5]; exact H
  have H : Ev none e 12 128 [some (.ref L), some (.int wi), some (.int de), some (.ref 1), some (.int k), c5] [.int 0, .ref L] N5 v M' 0 0 := Ev.back 2 (fun n => rfl) H
  obtain ⟨N7, eN7⟩ : ∃ N, N = (wF N5 L 11 0) := ⟨_, rfl⟩
  have hN7 : SQ N7 := by rw [eN7]; exact hN5.kf
  have H : Ev none e 12 131 [some (.ref L), some (.int wi), some (.int de), some (.ref 1), some (.int k), c5] [] N7 v M' 0 0 := by rw [eN7]; exact Ev.pfi rfl rfl rfl hN5.1 a_L qi_8_11 H
  have H : Ev none e 12 133 [some (.ref L), some (.int wi), some (.int de), some (.ref 1), some (.int k), c5] [.int 0, .ref L] N7 v M' 0 0 := Ev.back 2 (fun n => rfl) H
  obtain ⟨N9, eN9⟩ : ∃ N, N = (wF N7 L 13 0) := ⟨_, rfl⟩
  have hN9 : SQ N9 := by rw [eN9]; exact hN7.kf
  have H : Ev none e 12 136 [some (.ref L), some (.int wi), some (.int de), some (.ref 1), some (.int k), c5] [] N9 v M' 0 0 := by rw [eN9]; exact Ev.pfi rfl rfl rfl hN7.1 a_L qi_8_13 H
  have H : Ev none e 12 138 [some (.ref L), some (.int wi), some (.int de), some (.ref 1), some (.int k), c5] [.int 0, .ref L] N9 v M' 0 0 := Ev.back 2 (fun n => rfl) H
  obtain ⟨N11, eN11⟩ : ∃ N, N = (wF N9 L 15 0) := ⟨_, rfl⟩
  have hN11 : SQ N11 := by rw [eN11]; exact hN9.kf
  have H : Ev none e 12 141 [some (.ref L), some (.int wi), some (.int de), some (.ref 1), some (.int k), c5] [] N11 v M' 0 0 := by rw [eN11]; exact Ev.pfi rfl rfl rfl hN9.1 a_L qi_8_15 H
  have H : Ev none e 12 143 [some (.ref L), some (.int wi), some (.int de), some (.ref 1), some (.int k), c5] [.int 0, .ref L] N11 v M' 0 0 := Ev.back 2 (fun n => rfl) H
  obtain ⟨N13, eN13⟩ : ∃ N, N = (wF N11 L 16 0) := ⟨_, rfl⟩
  have hN13 : SQ N13 := by rw [eN13]; exact hN11.kf
  have H : Ev none e 12 146 [some (.ref L), some (.int wi), some (.int de), some (.ref 1), some (.int k), c5] [] N13 v M' 0 0 := by rw [eN13]; exact Ev.pfi rfl rfl rfl hN11.1 a_L qi_8_16 H
  have H : Ev none e 12 148 [some (.ref L), some (.int wi), some (.int de), some (.ref 1), some (.int k), c5] [.int 0, .ref L] N13 v M' 0 0 := Ev.back 2 (fun n => rfl) H
  obtain ⟨N15, eN15⟩ : ∃ N, N = (wF N13 L 17 0) := ⟨_, rfl⟩
  have hN15 : SQ N15 := by rw [eN15]; exact hN13.kf
  have H : Ev none e 12 151 [some (.ref L), some (.int wi), some (.int de), some (.ref 1), some (.int k), c5] [] N15 v M' 0 0 := by rw [eN15]; exact Ev.pfi rfl rfl rfl hN13.1 a_L qi_8_17 H
  have H : Ev none e 12 153 [some (.ref L), some (.int wi), some (.int de), some (.ref 1), some (.int k), c5] [.int 0, .ref L] N15 v M' 0 0 := Ev.back 2 (fun n => rfl) H
  obtain ⟨N17, eN17⟩ : ∃ N, N = (wF N15 L 18 0) := ⟨_, rfl⟩
  have hN17 : SQ N17 := by rw [eN17]; exact hN15.kf
  have H : Ev none e 12 156 [some (.ref L), some (.int wi), some (.int de), some (.ref 1), some (.int k), c5] [] N17 v M' 0 0 := by rw [eN17]; exact Ev.pfi rfl rfl rfl hN15.1 a_L qi_8_18 H
  have H : Ev none e 12 158 [some (.ref L), some (.int wi), some (.int de), some (.ref 1), some (.int k), c5] [.int 0, .ref L] N17 v M' 0 0 := Ev.back 2 (fun n => rfl) H
  obtain ⟨N19, eN19⟩ : ∃ N, N = (wF N17 L 19 0) := ⟨_, rfl⟩
  have hN19 : SQ N19 := by rw [eN19]; exact hN17.kf
  have H : Ev none e 12 161 [some (.ref L), some (.int wi), some (.int de), some (.ref 1), some (.int k), c5] [] N19 v M' 0 0 := by rw [eN19]; exact Ev.pfi rfl rfl rfl hN17.1 a_L qi_8_19 H
  obtain ⟨z1, z2⟩ := Ev.retb (fun n => rfl) H
  subst eN1 eN2 eN3 eN4 eN5 eN7 eN9 eN11 eN13 eN15 eN17 eN19
  exact ⟨z1, z2⟩
/-! THE CLASS'S copy -/
def LAN (L : Nat) (P : PK) (M : Mem) : Prop := PKs L P M ∧ PKt L P M ∧ LCel L P M ∧ LST L P M ∧ ∀ c, inC P c → rI M (L + 8) c = crdP P c (P 157).toInt.toNat
def cpF (L a _k : Nat) : Prop := L ≤ a ∧ a < L + 96
def cpW (L a : Nat) : Prop := L + 1 ≤ a ∧ a ≤ L + 9
section CPY
variable {e L Ot : Nat} {T : TS} {P : PK} {M M1 M' N : Mem} {v : Option Value} {n i k b B : Nat}
theorem STA.lan (h : STA L T P M) (hl : LST L P M) : LAN L P M := ⟨h.2.2.1, h.2.2.2.1, h.cel, hl, h.crd⟩
theorem ld_rowB (hL : gNth sT L = some 8) : ∀ f, 1 ≤ f → f ≤ 9 → ∃ g m, gNth sT (L + f) = some g ∧ wB g 1 m = true := by
  intro f h1 h9
  match f, h1, h9 with
  | 1, _, _ => exact ⟨_, _, fx_h2 hL, qw_9⟩
  | 2, _, _ => exact ⟨_, _, fx_h3 hL, qw_10⟩
  | 3, _, _ => exact ⟨_, _, fx_h4 hL, qw_11⟩
  | 4, _, _ => exact ⟨_, _, fx_h5 hL, qw_12⟩
  | 5, _, _ => exact ⟨_, _, fx_h6 hL, qw_13⟩
  | 6, _, _ => exact ⟨_, _, fx_h7 hL, qw_14⟩
  | 7, _, _ => exact ⟨_, _, fx_h8 hL, qw_15⟩
  | 8, _, _ => exact ⟨_, _, fx_h9 hL, qw_16⟩
  | 9, _, _ => exact ⟨_, _, fx_h10 hL, qw_17⟩
/-- the rows up to the s-th are copied -/
def CPs (L Ot : Nat) (M : Mem) (s : Nat) (N : Mem) : Prop := (∀ f, 1 ≤ f → f ≤ s → ∀ j, rN N (L + f) j = rN M (Ot + f) j) ∧ FZ (cpF L) (cpW L) noO M N
theorem CPs.next {s : Nat} (h : CPs L Ot M s N) (hS : SQ N) (hL : gNth sT L = some 8) (hO : gNth sT Ot = some 8) (hne : L ≠ Ot) (hs : s < 9) : CPs L Ot M (s + 1) (wC N (Ot + (s + 1)) (L + (s + 1))) := by
  have h1 := ld_cases hL
  have h2 := ld_cases hO
  refine ⟨fun f f1 f2 j => ?_, h.2.trans (FZ.wC ⟨by omega, by omega⟩)⟩
  by_cases hf : f = s + 1
  · subst hf
    obtain ⟨g, m, q1, q2⟩ := ld_rowB hL (s + 1) (by omega) (by omega)
    rw [rN_wC_eq hS.1 q1 q2]
    exact h.2.rn (by unfold cpW; omega)
  · rw [rN_wC_ne (by omega)]
    exact h.1 f f1 (by omega) j
theorem CPs.fld {s : Nat} (h : CPs L Ot M s N) (k : Nat) (x : Int32) : CPs L Ot M s (wF N L k x) := ⟨fun f f1 f2 j => by rw [rN_wF]; exact h.1 f f1 f2 j, h.2.trans (FZ.wF ⟨by omega, by omega⟩)⟩
theorem cpy_1 (hS : SQ M) (hL : gNth sT L = some 8) (hO : gNth sT Ot = some 8) (hne : L ≠ Ot) (H : Ev none e 13 0 [some (.ref L), some (.ref Ot), none] [] M v M' 0 0) : ∃ M1, SQ M1 ∧ CPs L Ot M 9 M1 ∧ (zI M1 L 0 = zI M Ot 0 ∧ zI M1 L 1 = zI M Ot 1 ∧ zI M1 L 11 = zI M Ot 11 ∧ zI M1 L 13 = zI M Ot 13) ∧ Ev none e 13 177 [some (.ref L), some (.ref Ot), some (.int 0)] [] M1 v M' 0 0 := by
  have h1 := ld_cases hL
  have h2 := ld_cases hO
  have h0 : CPs L Ot M 0 M := ⟨fun f f1 f2 => by omega, FZ.refl _⟩
  have H := cpy_0 hS hL hO H
  have a1 := h0.fld 0 (zI M Ot 0)
  have s1 := hS.kf (a := L) (k := 0) (x := zI M Ot 0)
  have H := cpy_8 s1 hL hO H
  have e1 : zI (wF M L 0 (zI M Ot 0)) Ot 1 = zI M Ot 1 := fI_wF_ne (by omega)
  rw [e1] at H
  have a2 := a1.fld 1 (zI M Ot 1)
  have s2 := s1.kf (a := L) (k := 1) (x := zI M Ot 1)
  obtain ⟨N2, eN2⟩ : ∃ N2, N2 = wF (wF M L 0 (zI M Ot 0)) L 1 (zI M Ot 1) := ⟨_, rfl⟩
  rw [← eN2] at a2 s2 H
  have z0 : zI N2 L 0 = zI M Ot 0 := by rw [eN2, fI_wF_ne (by omega)]; exact fI_wF_eq hS.1 hL qi_8_0
  have z1 : zI N2 L 1 = zI M Ot 1 := by rw [eN2]; exact fI_wF_eq s1.1 hL qi_8_1
  have st : ∀ (s : Nat) (N : Mem), CPs L Ot M s N → SQ N → (∀ k, zI N L k = zI N2 L k) → s < 9 → CPs L Ot M (s + 1) (wC N (Ot + (s + 1)) (L + (s + 1))) ∧ SQ (wC N (Ot + (s + 1)) (L + (s + 1))) ∧ ∀ k, zI (wC N (Ot + (s + 1)) (L + (s + 1))) L k = zI N2 L k := fun s N c q z hs => by
    obtain ⟨g, m, q1, q2⟩ := ld_rowB hL (s + 1) (by omega) (by omega)
    obtain ⟨g', m', q3, q4⟩ := ld_rowB hO (s + 1) (by omega) (by omega)
    have hm : m' = m := by
      have e : ∀ f, 1 ≤ f → f ≤ 9 → ∀ {A B : Nat}, gNth sT A = some 8 → gNth sT B = some 8 → (zrw N (A + f)).length = (zrw N (B + f)).length := fun f f1 f9 A B hA hB => by
        match f, f1, f9 with
        | 1, _, _ => exact (q.1.row (fx_h2 hA) qw_9).2.trans (q.1.row (fx_h2 hB) qw_9).2.symm
        | 2, _, _ => exact (q.1.row (fx_h3 hA) qw_10).2.trans (q.1.row (fx_h3 hB) qw_10).2.symm
        | 3, _, _ => exact (q.1.row (fx_h4 hA) qw_11).2.trans (q.1.row (fx_h4 hB) qw_11).2.symm
        | 4, _, _ => exact (q.1.row (fx_h5 hA) qw_12).2.trans (q.1.row (fx_h5 hB) qw_12).2.symm
        | 5, _, _ => exact (q.1.row (fx_h6 hA) qw_13).2.trans (q.1.row (fx_h6 hB) qw_13).2.symm
        | 6, _, _ => exact (q.1.row (fx_h7 hA) qw_14).2.trans (q.1.row (fx_h7 hB) qw_14).2.symm
        | 7, _, _ => exact (q.1.row (fx_h8 hA) qw_15).2.trans (q.1.row (fx_h8 hB) qw_15).2.symm
        | 8, _, _ => exact (q.1.row (fx_h9 hA) qw_16).2.trans (q.1.row (fx_h9 hB) qw_16).2.symm
        | 9, _, _ => exact (q.1.row (fx_h10 hA) qw_17).2.trans (q.1.row (fx_h10 hB) qw_17).2.symm
      have := e (s + 1) (by omega) (by omega) hO hL
      rw [(q.1.row q3 q4).2, (q.1.row q1 q2).2] at this
      exact this
    exact ⟨c.next q hL hO hne hs, q.kc q3 (hm ▸ q4) q1 q2, fun k => by rw [fI_wC]; exact z k⟩
  obtain ⟨c1, u1, y1⟩ := st 0 N2 ⟨fun f f1 f2 => by omega, a2.2⟩ s2 (fun _ => rfl) (by decide)
  have H := cpy_16 s2 hL hO H
  obtain ⟨c2, u2, y2⟩ := st 1 _ c1 u1 y1 (by decide)
  have H := cpy_32 u1 hL hO H
  obtain ⟨c3, u3, y3⟩ := st 2 _ c2 u2 y2 (by decide)
  have H := cpy_48 u2 hL hO H
  obtain ⟨c4, u4, y4⟩ := st 3 _ c3 u3 y3 (by decide)
  have H := cpy_64 u3 hL hO H
  obtain ⟨c5, u5, y5⟩ := st 4 _ c4 u4 y4 (by decide)
  have H := cpy_80 u4 hL hO H
  obtain ⟨c6, u6, y6⟩ := st 5 _ c5 u5 y5 (by decide)
  have H := cpy_96 u5 hL hO H
  obtain ⟨c7, u7, y7⟩ := st 6 _ c6 u6 y6 (by decide)
  have H := cpy_112 u6 hL hO H
  obtain ⟨c8, u8, y8⟩ := st 7 _ c7 u7 y7 (by decide)
  have H := cpy_128 u7 hL hO H
  obtain ⟨c9, u9, y9⟩ := st 8 _ c8 u8 y8 (by decide)
  have H := cpy_144 u8 hL hO H
  obtain ⟨N9, eN9⟩ : ∃ N9, N9 = wC (wC (wC (wC (wC (wC (wC (wC (wC N2 (Ot + (0 + 1)) (L + (0 + 1))) (Ot + (1 + 1)) (L + (1 + 1))) (Ot + (2 + 1)) (L + (2 + 1))) (Ot + (3 + 1)) (L + (3 + 1))) (Ot + (4 + 1)) (L + (4 + 1))) (Ot + (5 + 1)) (L + (5 + 1))) (Ot + (6 + 1)) (L + (6 + 1))) (Ot + (7 + 1)) (L + (7 + 1))) (Ot + (8 + 1)) (L + (8 + 1)) := ⟨_, rfl⟩
  rw [← eN9] at c9 u9 y9
  have H : Ev none e 13 159 [some (.ref L), some (.ref Ot), none] [] N9 v M' 0 0 := by rw [eN9]; exact H
  have fo : ∀ k, zI N9 Ot k = zI M Ot k := fun k => c9.2.fi (by unfold cpF; omega)
  have H := cpy_159 u9 hL hO H
  rw [fo] at H
  have H := cpy_167 u9.kf hL hO H
  have e13 : zI (wF N9 L 11 (zI M Ot 11)) Ot 13 = zI M Ot 13 := (fI_wF_ne (by omega)).trans (fo 13)
  rw [e13] at H
  refine ⟨_, u9.kf.kf, (c9.fld 11 _).fld 13 _, ⟨?_, ?_, ?_, ?_⟩, H⟩
  · rw [fI_wF_ne (by omega), fI_wF_ne (by omega), y9]; exact z0
  · rw [fI_wF_ne (by omega), fI_wF_ne (by omega), y9]; exact z1
  · rw [fI_wF_ne (by omega)]; exact fI_wF_eq u9.1 hL qi_8_11
  · exact fI_wF_eq u9.kf.1 hL qi_8_13
def wiF (L a _k : Nat) : Prop := L + 12 ≤ a ∧ a < L + 36
theorem cpy_2 (hL : gNth sT L = some 8) (hO : gNth sT Ot = some 8) (hne : L ≠ Ot) (hn : n ≤ 24) : ∀ (r k : Nat) (kz : Int32) (N : Mem), SQ N → WXr L N → WXr Ot N → (zI N L 13).toInt = (n : Int) → kz.toInt = (k : Int) → k + r = n → Ev none e 13 177 [some (.ref L), some (.ref Ot), some (.int kz)] [] N v M' 0 0 → ∃ N1 jz, SQ N1 ∧ FZ (wiF L) noO noO N N1 ∧ (∀ i f, k ≤ i → i < n → f < 6 → zI N1 (L + 12 + i) f = zI N (Ot + 12 + i) f) ∧ (∀ i f, i < k → zI N1 (L + 12 + i) f = zI N (L + 12 + i) f) ∧ Ev none e 13 206 [some (.ref L), some (.ref Ot), some (.int jz)] [] N1 v M' 0 0 := by
  have h1 := ld_cases hL
  have h2 := ld_cases hO
  intro r
  induction r with
  | zero =>
    intro k kz N hS hx hxO h13 hk hkr H
    rcases cpy_177 hS hL hO H with ⟨_, H⟩ | ⟨a1, _⟩
    · exact ⟨N, _, hS, FZ.refl _, fun i f h3 h4 => by omega, fun _ _ _ => rfl, H⟩
    · exact absurd (Int32.le_iff_toInt_le.mpr (by omega)) a1
  | succ r ih =>
    intro k kz N hS hx hxO h13 hk hkr H
    rcases cpy_177 hS hL hO H with ⟨a1, _⟩ | ⟨_, _, _, e1, v1, N1, rfl, H1, H⟩
    · have := Int32.le_iff_toInt_le.mp a1
      omega
    · have o1 : oI N (L + 10) kz = L + 12 + k := by unfold oI; rw [cl_n hk]; exact hx k (by omega)
      have o2 : oI N (Ot + 10) kz = Ot + 12 + k := by unfold oI; rw [cl_n hk]; exact hxO k (by omega)
      have t1 := wi_t hS.1 hL hx (k := k) (by omega)
      have t2 := wi_t hS.1 hO hxO (k := k) (by omega)
      rw [o1, o2] at H1
      obtain ⟨rfl, q2⟩ := cpx_0 hS t1 t2 H1
      have hF : FZ (fun a _ => a = L + 12 + k) noO noO N N1 := by
        rw [q2]
        exact (((((FZ.wF (F := fun a _ => a = L + 12 + k) rfl).trans (FZ.wF rfl)).trans (FZ.wF rfl)).trans (FZ.wF rfl)).trans (FZ.wF rfl)).trans (FZ.wF rfl)
      have hS1 : SQ N1 := by rw [q2]; exact hS.kf.kf.kf.kf.kf.kf
      have hz : ∀ f, f < 6 → zI N1 (L + 12 + k) f = zI N (Ot + 12 + k) f := fun f hf => by
        rw [q2]
        match f, hf with
        | 0, _ => rw [fI_wF_ne (by omega), fI_wF_ne (by omega), fI_wF_ne (by omega), fI_wF_ne (by omega), fI_wF_ne (by omega)]; exact fI_wF_eq hS.1 t1 qi_20_0
        | 1, _ => rw [fI_wF_ne (by omega), fI_wF_ne (by omega), fI_wF_ne (by omega), fI_wF_ne (by omega)]; exact fI_wF_eq hS.kf.1 t1 qi_20_1
        | 2, _ => rw [fI_wF_ne (by omega), fI_wF_ne (by omega), fI_wF_ne (by omega)]; exact fI_wF_eq hS.kf.kf.1 t1 qi_20_2
        | 3, _ => rw [fI_wF_ne (by omega), fI_wF_ne (by omega)]; exact fI_wF_eq hS.kf.kf.kf.1 t1 qi_20_3
        | 4, _ => rw [fI_wF_ne (by omega)]; exact fI_wF_eq hS.kf.kf.kf.kf.1 t1 qi_20_4
        | 5, _ => exact fI_wF_eq hS.kf.kf.kf.kf.kf.1 t1 qi_20_5
      have H := cpy_200 hS1 hL hO H
      obtain ⟨N2, jz, r1, r2, r3, r4, r5⟩ := ih (k + 1) (kz + 1) N1 hS1 (fun j hj => by rw [hF.on (fun q => q)]; exact hx j hj) (fun j hj => by rw [hF.on (fun q => q)]; exact hxO j hj) (by rw [hF.fi (by omega)]; exact h13) (by rw [i32_p1 (by omega)]; omega) (by omega) H
      refine ⟨N2, jz, r1, (hF.more (fun a _ q => ⟨by omega, by omega⟩) (fun _ q => q) (fun _ q => q)).trans r2, fun i f h3 h4 h5 => ?_, fun i f h3 => ?_, r5⟩
      · by_cases hik : i = k
        · subst hik
          rw [r4 i f (by omega), hz f h5]
        · rw [r3 i f (by omega) h4 h5]
          exact hF.fi (by omega)
      · rw [r4 i f (by omega)]
        exact hF.fi (by omega)
def wlF (L a _k : Nat) : Prop := L + 36 ≤ a ∧ a < L + 96
theorem cpy_3 (hL : gNth sT L = some 8) (hO : gNth sT Ot = some 8) (hne : L ≠ Ot) (hn : n ≤ 60) : ∀ (r k : Nat) (kz : Int32) (N : Mem), SQ N → WKs L N → WKs Ot N → (zI N L 15).toInt = (n : Int) → kz.toInt = (k : Int) → k + r = n → Ev none e 13 216 [some (.ref L), some (.ref Ot), some (.int kz)] [] N v M' 0 0 → ∃ N1 jz, SQ N1 ∧ FZ (wlF L) noO noO N N1 ∧ (∀ i f, k ≤ i → i < n → f < 5 → zI N1 (oN N (L + 11) i) f = zI N (oN N (Ot + 11) i) f) ∧ (∀ i f, i < k → zI N1 (oN N (L + 11) i) f = zI N (oN N (L + 11) i) f) ∧ Ev none e 13 245 [some (.ref L), some (.ref Ot), some (.int jz)] [] N1 v M' 0 0 := by
  have h1 := ld_cases hL
  have h2 := ld_cases hO
  intro r
  induction r with
  | zero =>
    intro k kz N hS hx hxO h13 hk hkr H
    rcases cpy_216 hS hL hO H with ⟨_, H⟩ | ⟨a1, _⟩
    · exact ⟨N, _, hS, FZ.refl _, fun i f h3 h4 => by omega, fun _ _ _ => rfl, H⟩
    · exact absurd (Int32.le_iff_toInt_le.mpr (by omega)) a1
  | succ r ih =>
    intro k kz N hS hx hxO h13 hk hkr H
    rcases cpy_216 hS hL hO H with ⟨a1, _⟩ | ⟨_, _, _, e1, v1, N1, rfl, H1, H⟩
    · have := Int32.le_iff_toInt_le.mp a1
      omega
    · have o1 : oI N (L + 11) kz = oN N (L + 11) k := by unfold oI; rw [cl_n hk]
      have o2 : oI N (Ot + 11) kz = oN N (Ot + 11) k := by unfold oI; rw [cl_n hk]
      have t1 := wk_t hS.1 hL (j := k) (by omega)
      have t2 := wk_t hS.1 hO (j := k) (by omega)
      have b1 := hx.2 k (by omega)
      have b2 := hxO.2 k (by omega)
      rw [o1, o2] at H1
      obtain ⟨rfl, q2⟩ := cpb_0 hS t1 t2 H1
      obtain ⟨A, eA⟩ : ∃ A, A = oN N (L + 11) k := ⟨_, rfl⟩
      obtain ⟨D, eD⟩ : ∃ D, D = oN N (Ot + 11) k := ⟨_, rfl⟩
      rw [← eA] at q2 t1 b1
      rw [← eD] at q2 t2 b2
      have hF : FZ (fun a _ => a = A) noO noO N N1 := by
        rw [q2]
        exact ((((FZ.wF (F := fun a _ => a = A) rfl).trans (FZ.wF rfl)).trans (FZ.wF rfl)).trans (FZ.wF rfl)).trans (FZ.wF rfl)
      have hS1 : SQ N1 := by rw [q2]; exact hS.kf.kf.kf.kf.kf
      have hz : ∀ f, f < 5 → zI N1 A f = zI N D f := fun f hf => by
        rw [q2]
        match f, hf with
        | 0, _ => rw [fI_wF_ne (by omega), fI_wF_ne (by omega), fI_wF_ne (by omega), fI_wF_ne (by omega)]; exact fI_wF_eq hS.1 t1 qi_21_0
        | 1, _ => rw [fI_wF_ne (by omega), fI_wF_ne (by omega), fI_wF_ne (by omega)]; exact fI_wF_eq hS.kf.1 t1 qi_21_1
        | 2, _ => rw [fI_wF_ne (by omega), fI_wF_ne (by omega)]; exact fI_wF_eq hS.kf.kf.1 t1 qi_21_2
        | 3, _ => rw [fI_wF_ne (by omega)]; exact fI_wF_eq hS.kf.kf.kf.1 t1 qi_21_3
        | 4, _ => exact fI_wF_eq hS.kf.kf.kf.kf.1 t1 qi_21_4
      have H := cpy_239 hS1 hL hO H
      have oo : ∀ a i, oN N1 a i = oN N a i := fun a i => hF.on (fun q => q)
      obtain ⟨N2, jz, r1, r2, r3, r4, r5⟩ := ih (k + 1) (kz + 1) N1 hS1 (hx.fz hF (fun q => q)) (hxO.fz hF (fun q => q)) (by rw [hF.fi (by omega)]; exact h13) (by rw [i32_p1 (by omega)]; omega) (by omega) H
      refine ⟨N2, jz, r1, (hF.more (fun a _ q => ⟨by omega, by omega⟩) (fun _ q => q) (fun _ q => q)).trans r2, fun i f h3 h4 h5 => ?_, fun i f h3 => ?_, r5⟩
      · by_cases hik : i = k
        · subst hik
          have := r4 i f (by omega)
          rw [oo] at this
          rw [this, ← eA, ← eD, hz f h5]
        · have := r3 i f (by omega) h4 h5
          rw [oo, oo] at this
          rw [this]
          have bi := hxO.2 i (by omega)
          exact hF.fi (by omega)
      · have := r4 i f (by omega)
        rw [oo] at this
        rw [this]
        refine hF.fi (fun q => ?_)
        rw [eA] at q
        have := hx.1 i k (by omega) (by omega) q
        omega
theorem WKs.on (h : WKs L M) (ho : ∀ j, oN M' (L + 11) j = oN M (L + 11) j) : WKs L M' := ⟨fun j k hj hk q => h.1 j k hj hk (by rw [ho, ho] at q; exact q), fun k hk => by rw [ho]; exact h.2 k hk⟩
/-- one land becomes the other -/
theorem copy_ok (hS : SQ M) (hL : gNth sT L = some 8) (hO : gNth sT Ot = some 8) (hne : L ≠ Ot) (hD : okD P) (hK : okK P) (hx : WXr L M) (hxO : WXr Ot M) (hk : WKs L M) (hkO : WKs Ot M) (hA : LAN Ot P M) (H : Ev none e 13 0 [some (.ref L), some (.ref Ot), none] [] M v M' 0 0) : v = none ∧ SQ M' ∧ FZ (cpF L) (cpW L) noO M M' ∧ LAN L P M' := by
  have h1 := ld_cases hL
  have h2 := ld_cases hO
  obtain ⟨⟨a0, a1, ⟨a2, a3⟩, a4, a5⟩, ⟨b1, b2, b3, b4⟩, hC, ⟨l1, l2⟩, hcr⟩ := hA
  obtain ⟨k0, k60, _⟩ := hK
  have n0 := hD.2.2.1
  have n24 := hD.2.2.2.1
  obtain ⟨M1, S1, ⟨r1, F1⟩, ⟨z0, z1, z11, z13⟩, H⟩ := cpy_1 hS hL hO hne H
  have O1 : ∀ k, zI M1 Ot k = zI M Ot k := fun k => F1.fi (by unfold cpF; omega)
  have o1 : ∀ a j, oN M1 a j = oN M a j := fun a j => F1.on (fun q => q)
  obtain ⟨M2, jz, S2, F2, w1, _, H⟩ := cpy_2 (n := (P 12).toInt.toNat) hL hO hne (by omega) (P 12).toInt.toNat 0 0 M1 S1 (fun k hk => by rw [o1]; exact hx k hk) (fun k hk => by rw [o1]; exact hxO k hk) (by rw [z13, a4]; omega) rfl (by omega) H
  have H := cpy_206 S2 hL hO H
  have O2 : ∀ k, zI M2 Ot k = zI M Ot k := fun k => (F2.fi (by unfold wiF; omega)).trans (O1 k)
  rw [O2] at H
  obtain ⟨N3, e3⟩ : ∃ N3, N3 = wF M2 L 15 (zI M Ot 15) := ⟨_, rfl⟩
  have S3 : SQ N3 := by rw [e3]; exact S2.kf
  have F3 : FZ (fun a k => a = L ∧ k = 15) noO noO M2 N3 := by rw [e3]; exact FZ.wF ⟨rfl, rfl⟩
  have z15 : zI N3 L 15 = zI M Ot 15 := by rw [e3]; exact fI_wF_eq S2.1 hL qi_8_15
  rw [← e3] at H
  have o3 : ∀ a j, oN N3 a j = oN M a j := fun a j => (F3.on (fun q => q)).trans ((F2.on (fun q => q)).trans (o1 a j))
  obtain ⟨M4, jz', S4, F4, k1, _, H⟩ := cpy_3 (n := (P 157).toInt.toNat) hL hO hne (by omega) (P 157).toInt.toNat 0 0 N3 S3 (hk.on (fun j => o3 _ j)) (hkO.on (fun j => o3 _ j)) (by rw [z15, l1]; omega) rfl (by omega) H
  have O4 : ∀ k, zI M4 Ot k = zI M Ot k := fun k => (F4.fi (by unfold wlF; omega)).trans ((F3.fi (by omega)).trans (O2 k))
  have H := cpy_245 S4 hL hO H
  rw [O4] at H
  have H := cpy_253 S4.kf hL hO H
  have e17 : zI (wF M4 L 16 (zI M Ot 16)) Ot 17 = zI M Ot 17 := (fI_wF_ne (by omega)).trans (O4 17)
  rw [e17] at H
  have H := cpy_261 S4.kf.kf hL hO H
  have e18 : zI (wF (wF M4 L 16 (zI M Ot 16)) L 17 (zI M Ot 17)) Ot 18 = zI M Ot 18 := (fI_wF_ne (by omega)).trans ((fI_wF_ne (by omega)).trans (O4 18))
  rw [e18] at H
  obtain ⟨hv, eM⟩ := cpy_269 S4.kf.kf.kf hL hO H
  have e19 : zI (wF (wF (wF M4 L 16 (zI M Ot 16)) L 17 (zI M Ot 17)) L 18 (zI M Ot 18)) Ot 19 = zI M Ot 19 := (fI_wF_ne (by omega)).trans ((fI_wF_ne (by omega)).trans ((fI_wF_ne (by omega)).trans (O4 19)))
  rw [e19] at eM
  have S5 : SQ M' := by rw [eM]; exact S4.kf.kf.kf.kf
  have F5 : FZ (fun a k => a = L ∧ 16 ≤ k) noO noO M4 M' := by
    rw [eM]
    exact (((FZ.wF (F := fun a k => a = L ∧ 16 ≤ k) ⟨rfl, by decide⟩).trans (FZ.wF ⟨rfl, by decide⟩)).trans (FZ.wF ⟨rfl, by decide⟩)).trans (FZ.wF ⟨rfl, by decide⟩)
  have y16 : zI M' L 16 = zI M Ot 16 := by
    rw [eM, fI_wF_ne (by omega), fI_wF_ne (by omega), fI_wF_ne (by omega)]
    exact fI_wF_eq S4.1 hL qi_8_16
  have y17 : zI M' L 17 = zI M Ot 17 := by
    rw [eM, fI_wF_ne (by omega), fI_wF_ne (by omega)]
    exact fI_wF_eq S4.kf.1 hL qi_8_17
  have y18 : zI M' L 18 = zI M Ot 18 := by
    rw [eM, fI_wF_ne (by omega)]
    exact fI_wF_eq S4.kf.kf.1 hL qi_8_18
  have y19 : zI M' L 19 = zI M Ot 19 := by
    rw [eM]
    exact fI_wF_eq S4.kf.kf.kf.1 hL qi_8_19
  have zL : ∀ k, k < 15 → zI M' L k = zI M1 L k := fun k hk => (F5.fi (by omega)).trans ((F4.fi (by unfold wlF; omega)).trans ((F3.fi (by omega)).trans (F2.fi (by unfold wiF; omega))))
  have rr : ∀ f, 1 ≤ f → f ≤ 9 → ∀ j, rN M' (L + f) j = rN M (Ot + f) j := fun f f1 f9 j => (F5.rn (fun q => q)).trans ((F4.rn (fun q => q)).trans ((F3.rn (fun q => q)).trans ((F2.rn (fun q => q)).trans (r1 f f1 f9 j))))
  have oM : ∀ a j, oN M' a j = oN M a j := fun a j => (F5.on (fun q => q)).trans ((F4.on (fun q => q)).trans (o3 a j))
  refine ⟨hv, S5, F1.trans ((F2.more (fun a _ q => ⟨Nat.le_trans (by omega) q.1, Nat.lt_of_lt_of_le q.2 (by omega)⟩) (fun _ q => q.elim) (fun _ q => q)).trans ((F3.more (fun a _ q => ⟨Nat.le_of_eq q.1.symm, by have := q.1; omega⟩) (fun _ q => q.elim) (fun _ q => q)).trans ((F4.more (fun a _ q => ⟨Nat.le_trans (by omega) q.1, q.2⟩) (fun _ q => q.elim) (fun _ q => q)).trans (F5.more (fun a _ q => ⟨Nat.le_of_eq q.1.symm, by have := q.1; omega⟩) (fun _ q => q.elim) (fun _ q => q))))), ⟨(zL 0 (by decide)).trans (z0.trans a0), (zL 1 (by decide)).trans (z1.trans a1), ⟨(zL 11 (by decide)).trans (z11.trans a2), fun d hd => (rr 9 (by decide) (by decide) d).trans (a3 d hd)⟩, (zL 13 (by decide)).trans (z13.trans a4), fun k hk f hf => ?_⟩, ⟨y16.trans b1, y17.trans b2, y18.trans b3, y19.trans b4⟩, fun k f hk hf => ?_, ⟨?_, fun k hkk => ?_⟩, fun c hc => (rr 8 (by decide) (by decide) _).trans (hcr c hc)⟩
  · rw [F5.fi (by omega), F4.fi (by unfold wlF; omega), F3.fi (by omega), w1 k f (Nat.zero_le _) hk hf, F1.fi (by unfold cpF; omega)]
    exact a5 k hk f hf
  · have := rr (1 + f) (by omega) (by omega) k
    rw [← Nat.add_assoc, ← Nat.add_assoc] at this
    exact this.trans (hC k f hk hf)
  · exact (F5.fi (by omega)).trans ((F4.fi (by unfold wlF; omega)).trans (z15.trans l1))
  · have wf : ∀ f, f < 5 → zI M' (oN M' (L + 11) k) f = zI M (oN M (Ot + 11) k) f := fun f hf => by
      have b1 := hk.2 k (by omega)
      have b2 := hkO.2 k (by omega)
      have q := k1 k f (Nat.zero_le _) hkk hf
      rw [o3, o3] at q
      rw [oM, F5.fi (by omega), q, F3.fi (by omega), F2.fi (by unfold wiF; omega), F1.fi (by unfold cpF; omega)]
    obtain ⟨q0, q1, q2, q3, q4⟩ := l2 k hkk
    exact ⟨(wf 0 (by decide)).trans q0, (wf 1 (by decide)).trans q1, (wf 2 (by decide)).trans q2, (wf 3 (by decide)).trans q3, (wf 4 (by decide)).trans q4⟩
/-- a land that is left alone -/
theorem LAN.fz {F : Nat → Nat → Prop} {W O : Nat → Prop} (h : LAN L P M) (hF : FZ F W O M M') (f0 : ∀ a k, L ≤ a → a < L + 96 → ¬ F a k) (w0 : ∀ a, L + 1 ≤ a → a ≤ L + 9 → ¬ W a) (o0 : ¬ O (L + 11)) (hk : WKs L M) (n24 : (P 12).toInt ≤ 24) (k60 : (P 157).toInt ≤ 60) : LAN L P M' := by
  obtain ⟨⟨a0, a1, ⟨a2, a3⟩, a4, a5⟩, ⟨b1, b2, b3, b4⟩, hC, ⟨l1, l2⟩, hcr⟩ := h
  have zL : ∀ k, zI M' L k = zI M L k := fun k => hF.fi (f0 _ _ (by omega) (by omega))
  have rr : ∀ f, 1 ≤ f → f ≤ 9 → ∀ j, rN M' (L + f) j = rN M (L + f) j := fun f f1 f9 j => hF.rn (w0 _ (by omega) (by omega))
  refine ⟨⟨(zL 0).trans a0, (zL 1).trans a1, ⟨(zL 11).trans a2, fun d hd => (rr 9 (by decide) (by decide) d).trans (a3 d hd)⟩, (zL 13).trans a4, fun k hk f hf => (hF.fi (f0 _ _ (by omega) (by omega))).trans (a5 k hk f hf)⟩, ⟨(zL 16).trans b1, (zL 17).trans b2, (zL 18).trans b3, (zL 19).trans b4⟩, fun k f hk hf => ?_, ⟨(zL 15).trans l1, fun k hkk => ?_⟩, fun c hc => (rr 8 (by decide) (by decide) _).trans (hcr c hc)⟩
  · have := rr (1 + f) (by omega) (by omega) k
    rw [← Nat.add_assoc] at this
    exact this.trans (hC k f hk hf)
  · have b := hk.2 k (by omega)
    have wf : ∀ f, zI M' (oN M' (L + 11) k) f = zI M (oN M (L + 11) k) f := fun f => by
      rw [hF.on o0]
      exact hF.fi (f0 _ _ (by omega) (by omega))
    obtain ⟨q0, q1, q2, q3, q4⟩ := l2 k hkk
    exact ⟨(wf 0).trans q0, (wf 1).trans q1, (wf 2).trans q2, (wf 3).trans q3, (wf 4).trans q4⟩
end CPY
/-! THE CLASS'S renew: a new park -/
def byI (b : Int32) (f : Nat) : Int32 := if f = 0 then b - b / 8 * 8 else if f = 1 then b / 8 - b / 8 / 2 * 2 else if f = 2 then b / 16 else 0
/-- the PARK that the tape told -/
noncomputable def parP (wi de : Int32) (o : Nat → Int32) : PK := fun j => if j = 0 then wi else if j = 1 then de else if 522 ≤ j ∧ (j - 522) / 7 < wi.toInt.toNat * de.toInt.toNat then byI (o ((j - 522) / 7)) ((j - 522) % 7) else 0
theorem by_all : (List.range 256).all (fun n => decide ((nI n &&& 7) = byI (nI n) 0 ∧ ((nI n >>> ((3 : Int32) &&& 31)) &&& 1) = byI (nI n) 1 ∧ (nI n >>> ((4 : Int32) &&& 31)) = byI (nI n) 2)) = true := by decide +kernel
theorem by_bits {b : Int32} (h : 0 ≤ b.toInt ∧ b.toInt < 256) : (b &&& 7) = byI b 0 ∧ ((b >>> ((3 : Int32) &&& 31)) &&& 1) = byI b 1 ∧ (b >>> ((4 : Int32) &&& 31)) = byI b 2 := by
  have hb : b = nI b.toInt.toNat := Int32.toInt_inj.mp (by rw [nI_toInt (by omega)]; omega)
  have q := of_decide_eq_true (List.all_eq_true.mp by_all b.toInt.toNat (List.mem_range.mpr (by omega)))
  rw [← hb] at q
  exact q
def rnW (L a : Nat) : Prop := L + 1 ≤ a ∧ a ≤ L + 3
def rn2 (L a : Nat) : Prop := L + 4 ≤ a ∧ a ≤ L + 8
def rnF (L a k : Nat) : Prop := a = L ∧ (k ≤ 1 ∨ 11 ≤ k)
section RNW
variable {e L : Nat} {P : PK} {M M1 M' N : Mem} {v : Option Value} {n i k b B : Nat} {wi de : Int32}
theorem rnw_lp (hL : gNth sT L = some 8) (hn : n ≤ 256) : ∀ (r k : Nat) (kz : Int32) (c5 : Option Value) (N : Mem), SQ N → (zI N L 0 * zI N L 1).toInt = (n : Int) → kz.toInt = (k : Int) → k + r = n → Ev none e 12 13 [some (.ref L), some (.int wi), some (.int de), some (.ref 1), some (.int kz), c5] [] N v M' 0 0 → ∃ N1 jz c6, SQ N1 ∧ FZ noF (rnW L) noO N N1 ∧ (∀ j, k ≤ j → j < n → rN N1 (L + 1) j = rN N 2 j &&& 7 ∧ rN N1 (L + 2) j = (rN N 2 j >>> ((3 : Int32) &&& 31)) &&& 1 ∧ rN N1 (L + 3) j = rN N 2 j >>> ((4 : Int32) &&& 31)) ∧ (∀ f j, j < k → rN N1 (L + f) j = rN N (L + f) j) ∧ Ev none e 12 86 [some (.ref L), some (.int wi), some (.int de), some (.ref 1), some (.int jz), c6] [] N1 v M' 0 0 := by
  have h1 := ld_cases hL
  intro r
  induction r with
  | zero =>
    intro k kz c5 N hS hm hk hkr H
    rcases rnw_13 hS hL H with ⟨_, H⟩ | ⟨a1, _⟩ | ⟨a1, _⟩
    · exact ⟨N, _, _, hS, FZ.refl _, fun j h3 h4 => by omega, fun _ _ _ => rfl, H⟩
    · exact absurd (Int32.le_iff_toInt_le.mpr (by omega)) a1
    · exact absurd (Int32.le_iff_toInt_le.mpr (by omega)) a1
  | succ r ih =>
    intro k kz c5 N hS hm hk hkr H
    have t256 : (256 : Int32).toInt = 256 := rfl
    rcases rnw_13 hS hL H with ⟨a1, _⟩ | ⟨_, a1, _⟩ | ⟨_, _, _, _, _, _, H⟩
    · have := Int32.le_iff_toInt_le.mp a1
      omega
    · have := Int32.le_iff_toInt_le.mp a1
      omega
    · rw [cl_n hk] at H
      have e2 : rI N 2 kz = rN N 2 k := rI_n hk
      rw [e2] at H
      obtain ⟨N1, eN⟩ : ∃ N1, N1 = wI (wI (wI N (L + 1) k (rN N 2 k &&& 7)) (L + 2) k ((rN N 2 k >>> ((3 : Int32) &&& 31)) &&& 1)) (L + 3) k (rN N 2 k >>> ((4 : Int32) &&& 31)) := ⟨_, rfl⟩
      rw [← eN] at H
      have hS1 : SQ N1 := by rw [eN]; exact hS.ki.ki.ki
      have hF : FZ noF (rnW L) noO N N1 := by
        rw [eN]
        exact ((FZ.wI (W := rnW L) ⟨by omega, by omega⟩).trans (FZ.wI ⟨by omega, by omega⟩)).trans (FZ.wI ⟨by omega, by omega⟩)
      have l1 : k < (zrw N (L + 1)).length := by rw [(hS.1.row (fx_h2 hL) qw_9).2]; omega
      have l2 : k < (zrw (wI N (L + 1) k (rN N 2 k &&& 7)) (L + 2)).length := by rw [(hS.ki.1.row (fx_h3 hL) qw_10).2]; omega
      have l3 : k < (zrw (wI (wI N (L + 1) k (rN N 2 k &&& 7)) (L + 2) k ((rN N 2 k >>> ((3 : Int32) &&& 31)) &&& 1)) (L + 3)).length := by rw [(hS.ki.ki.1.row (fx_h4 hL) qw_11).2]; omega
      have y1 : rN N1 (L + 1) k = rN N 2 k &&& 7 := by rw [eN, rN_wI_ne (by omega), rN_wI_ne (by omega)]; exact rN_wI_eq l1
      have y2 : rN N1 (L + 2) k = (rN N 2 k >>> ((3 : Int32) &&& 31)) &&& 1 := by rw [eN, rN_wI_ne (by omega)]; exact rN_wI_eq l2
      have y3 : rN N1 (L + 3) k = rN N 2 k >>> ((4 : Int32) &&& 31) := by rw [eN]; exact rN_wI_eq l3
      have yo : ∀ f j, j ≠ k → rN N1 (L + f) j = rN N (L + f) j := fun f j hj => by rw [eN, rN_wI_ne (by omega), rN_wI_ne (by omega), rN_wI_ne (by omega)]
      have b2 : ∀ j, rN N1 2 j = rN N 2 j := fun j => hF.rn (by unfold rnW; omega)
      obtain ⟨N2, jz, c6, r1, r2, r3, r4, r5⟩ := ih (k + 1) (kz + 1) _ N1 hS1 (by rw [hF.fi (fun q => q), hF.fi (fun q => q)]; exact hm) (by rw [i32_p1 (by omega)]; omega) (by omega) H
      refine ⟨N2, jz, c6, r1, hF.trans r2, fun j h3 h4 => ?_, fun f j h3 => ?_, r5⟩
      · by_cases hjk : j = k
        · subst hjk
          rw [r4 1 j (by omega), r4 2 j (by omega), r4 3 j (by omega)]
          exact ⟨y1, y2, y3⟩
        · have q := r3 j (by omega) h4
          rw [b2] at q
          exact q
      · rw [r4 f j (by omega)]
        exact yo f j (by omega)
theorem parP_c {o : Nat → Int32} {k f : Nat} (hk : k < wi.toInt.toNat * de.toInt.toNat) (hf : f < 7) : parP wi de o (522 + 7 * k + f) = byI (o k) f := by
  have h1 : (522 + 7 * k + f - 522) / 7 = k := by omega
  have h2 : (522 + 7 * k + f - 522) % 7 = f := by omega
  unfold parP
  rw [if_neg (by omega), if_neg (by omega), h1, h2, if_pos ⟨by omega, hk⟩]
theorem parP_z {o : Nat → Int32} {j : Nat} (h2 : 2 ≤ j) (h5 : j < 522) : parP wi de o j = 0 := by
  unfold parP
  rw [if_neg (by omega), if_neg (by omega), if_neg (by omega)]
theorem parP_cong {o o' : Nat → Int32} (h : ∀ k, k < wi.toInt.toNat * de.toInt.toNat → o k = o' k) : parP wi de o = parP wi de o' := by
  funext j
  unfold parP
  by_cases h0 : j = 0
  · rw [if_pos h0, if_pos h0]
  · rw [if_neg h0, if_neg h0]
    by_cases h1 : j = 1
    · rw [if_pos h1, if_pos h1]
    · rw [if_neg h1, if_neg h1]
      by_cases h2 : 522 ≤ j ∧ (j - 522) / 7 < wi.toInt.toNat * de.toInt.toNat
      · rw [if_pos h2, if_pos h2, h _ h2.2]
      · rw [if_neg h2, if_neg h2]
theorem parP_0 {o : Nat → Int32} : parP wi de o 0 = wi := rfl
theorem parP_1 {o : Nat → Int32} : parP wi de o 1 = de := rfl
theorem parP_wh {o : Nat → Int32} (hw : 4 ≤ wi.toInt ∧ wi.toInt ≤ 16) (hd : 4 ≤ de.toInt ∧ de.toInt ≤ 16) : wh4 (parP wi de o) := ⟨hw.1, hw.2, hd.1, hd.2⟩
theorem parP_D {o : Nat → Int32} (hw : 4 ≤ wi.toInt ∧ wi.toInt ≤ 16) (hd : 4 ≤ de.toInt ∧ de.toInt ≤ 16) : okD (parP wi de o) ∧ okK (parP wi de o) := by
  have z2 : parP wi de o 2 = 0 := parP_z (by decide) (by decide)
  have z12 : parP wi de o 12 = 0 := parP_z (by decide) (by decide)
  have z157 : parP wi de o 157 = 0 := parP_z (by decide) (by decide)
  have z0 : (0 : Int32).toInt = 0 := rfl
  refine ⟨⟨parP_wh hw hd, ⟨by rw [z2]; decide, by rw [z2]; decide, fun d hd => ?_⟩, by rw [z12]; decide, by rw [z12]; decide, fun k hk => ?_⟩, by rw [z157]; decide, by rw [z157]; decide, fun k hk => ?_⟩
  · rw [z2, z0] at hd
    exact absurd hd (Nat.not_lt_zero _)
  · rw [z12, z0] at hk
    exact absurd hk (Nat.not_lt_zero _)
  · rw [z157, z0] at hk
    exact absurd hk (Nat.not_lt_zero _)
theorem by_rng {b : Int32} (h : 0 ≤ b.toInt ∧ b.toInt < 256) : (0 ≤ (byI b 0).toInt ∧ (byI b 0).toInt ≤ 7) ∧ 0 ≤ (byI b 1).toInt ∧ (byI b 1).toInt ≤ 1 ∧ 0 ≤ (byI b 2).toInt ∧ (byI b 2).toInt ≤ 15 := by
  have hb : b = nI b.toInt.toNat := Int32.toInt_inj.mp (by rw [nI_toInt (by omega)]; omega)
  have q : (List.range 256).all (fun n => decide ((0 ≤ (byI (nI n) 0).toInt ∧ (byI (nI n) 0).toInt ≤ 7) ∧ 0 ≤ (byI (nI n) 1).toInt ∧ (byI (nI n) 1).toInt ≤ 1 ∧ 0 ≤ (byI (nI n) 2).toInt ∧ (byI (nI n) 2).toInt ≤ 15)) = true := by decide +kernel
  have q := of_decide_eq_true (List.all_eq_true.mp q b.toInt.toNat (List.mem_range.mpr (by omega)))
  rw [← hb] at q
  exact q
theorem parP_E {o : Nat → Int32} (ho : ∀ k, k < wi.toInt.toNat * de.toInt.toNat → (0 ≤ (o k).toInt ∧ (o k).toInt < 256) ∧ ¬ byI (o k) 0 = 7) : okE B (parP wi de o) := by
  intro c hc
  have e : ∀ f, f < 7 → cE (parP wi de o) f c = byI (o c.toInt.toNat) f := fun f hf => parP_c hc.2 hf
  obtain ⟨h1, h2⟩ := ho _ hc.2
  obtain ⟨⟨r1, r2⟩, r3, r4, r5, r6⟩ := by_rng h1
  have t7 : (7 : Int32).toInt = 7 := rfl
  have n7 : (byI (o c.toInt.toNat) 0).toInt ≠ 7 := fun q => h2 (Int32.toInt_inj.mp (q.trans t7.symm))
  have z : ∀ f, 3 ≤ f → byI (o c.toInt.toNat) f = 0 := fun f hf => by
    unfold byI
    rw [if_neg (by omega), if_neg (by omega), if_neg (by omega)]
  have z0 : (0 : Int32).toInt = 0 := rfl
  unfold okC1
  rw [e 0 (by decide), e 2 (by decide), e 3 (by decide), e 4 (by decide), e 5 (by decide), e 6 (by decide), z 3 (by decide), z 4 (by decide), z 5 (by decide), z 6 (by decide), z0]
  omega
theorem renew_ok (hS : SQ M) (hL : gNth sT L = some 8) (hw : 4 ≤ wi.toInt ∧ wi.toInt ≤ 16) (hd : 4 ≤ de.toInt ∧ de.toInt ≤ 16) (ho : ∀ k, k < wi.toInt.toNat * de.toInt.toNat → 0 ≤ (rN M 2 k).toInt ∧ (rN M 2 k).toInt < 256) (H : Ev none e 12 0 [some (.ref L), some (.int wi), some (.int de), some (.ref 1), none, none] [] M v M' 0 0) : v = none ∧ SQ M' ∧ FZ (rnF L) (cpW L) noO M M' ∧ LAN L (parP wi de (rN M 2)) M' := by
  have h1 := ld_cases hL
  obtain ⟨w, ew⟩ : ∃ w, w = wi.toInt.toNat := ⟨_, rfl⟩
  obtain ⟨dd, ed⟩ : ∃ dd, dd = de.toInt.toNat := ⟨_, rfl⟩
  have hwd : w * dd ≤ 16 * 16 := Nat.mul_le_mul (by omega) (by omega)
  have H := rnw_0 hS hL H
  obtain ⟨N, eN⟩ : ∃ N, N = wF (wF M L 0 wi) L 1 de := ⟨_, rfl⟩
  have F0 : FZ (fun a k => a = L ∧ k ≤ 1) noO noO M N := by
    rw [eN]
    exact (FZ.wF (F := fun a k => a = L ∧ k ≤ 1) ⟨rfl, by decide⟩).trans (FZ.wF ⟨rfl, by decide⟩)
  have S0 : SQ N := by rw [eN]; exact hS.kf.kf
  have z0 : zI N L 0 = wi := by rw [eN, fI_wF_ne (by omega)]; exact fI_wF_eq hS.1 hL qi_8_0
  have z1 : zI N L 1 = de := by rw [eN]; exact fI_wF_eq hS.kf.1 hL qi_8_1
  rw [← eN] at H
  obtain ⟨c1, c2, _⟩ := cls_int (parP_wh (o := rN M 2) hw hd)
  have cw : clsP (parP wi de (rN M 2)) = w * dd := by rw [ew, ed]; rfl
  rw [cw] at c1
  rw [parP_0, parP_1] at c1
  have mm : (zI N L 0 * zI N L 1).toInt = ((w * dd : Nat) : Int) := by
    rw [z0, z1, i32_mul (by omega) (by omega)]
    exact c1.symm
  obtain ⟨N1, jz, c6, S1, F1, g1, _, H⟩ := rnw_lp hL (n := w * dd) (by omega) (w * dd) 0 0 none N S0 mm rfl (by omega) H
  obtain ⟨hv, eM⟩ := rnw_86 S1 hL H
  obtain ⟨X, eX⟩ : ∃ X, X = wA (wA (wA (wA (wA N1 (L + 4) 0) (L + 5) 0) (L + 6) 0) (L + 7) 0) (L + 8) 0 := ⟨_, rfl⟩
  have SX : SQ X := by rw [eX]; exact S1.ka.ka.ka.ka.ka
  have FX : FZ noF (rn2 L) noO N1 X := by
    rw [eX]
    exact ((((FZ.wA (W := rn2 L) ⟨by omega, by omega⟩).trans (FZ.wA ⟨by omega, by omega⟩)).trans (FZ.wA ⟨by omega, by omega⟩)).trans (FZ.wA ⟨by omega, by omega⟩)).trans (FZ.wA ⟨by omega, by omega⟩)
  have x4 : ∀ j, j < 256 → rN X (L + 4) j = 0 := fun j hj => by
    rw [eX, rN_wA_ne (by omega), rN_wA_ne (by omega), rN_wA_ne (by omega), rN_wA_ne (by omega)]
    exact rN_wA_eq S1.1 (fx_h5 hL) qw_12 hj
  have x5 : ∀ j, j < 256 → rN X (L + 5) j = 0 := fun j hj => by
    rw [eX, rN_wA_ne (by omega), rN_wA_ne (by omega), rN_wA_ne (by omega)]
    exact rN_wA_eq S1.ka.1 (fx_h6 hL) qw_13 hj
  have x6 : ∀ j, j < 256 → rN X (L + 6) j = 0 := fun j hj => by
    rw [eX, rN_wA_ne (by omega), rN_wA_ne (by omega)]
    exact rN_wA_eq S1.ka.ka.1 (fx_h7 hL) qw_14 hj
  have x7 : ∀ j, j < 256 → rN X (L + 7) j = 0 := fun j hj => by
    rw [eX, rN_wA_ne (by omega)]
    exact rN_wA_eq S1.ka.ka.ka.1 (fx_h8 hL) qw_15 hj
  have x8 : ∀ j, j < 256 → rN X (L + 8) j = 0 := fun j hj => by
    rw [eX]
    exact rN_wA_eq S1.ka.ka.ka.ka.1 (fx_h9 hL) qw_16 hj
  rw [← eX] at eM
  have S7 : SQ M' := by rw [eM]; exact SX.kf.kf.kf.kf.kf.kf.kf
  have F7 : FZ (fun a k => a = L ∧ 11 ≤ k) noO noO X M' := by
    rw [eM]
    exact ((((((FZ.wF (F := fun a k => a = L ∧ 11 ≤ k) ⟨rfl, by decide⟩).trans (FZ.wF ⟨rfl, by decide⟩)).trans (FZ.wF ⟨rfl, by decide⟩)).trans (FZ.wF ⟨rfl, by decide⟩)).trans (FZ.wF ⟨rfl, by decide⟩)).trans (FZ.wF ⟨rfl, by decide⟩)).trans (FZ.wF ⟨rfl, by decide⟩)
  have y11 : zI M' L 11 = 0 := by
    rw [eM, fI_wF_ne (by omega), fI_wF_ne (by omega), fI_wF_ne (by omega), fI_wF_ne (by omega), fI_wF_ne (by omega), fI_wF_ne (by omega)]
    exact fI_wF_eq SX.1 hL qi_8_11
  have y13 : zI M' L 13 = 0 := by
    rw [eM, fI_wF_ne (by omega), fI_wF_ne (by omega), fI_wF_ne (by omega), fI_wF_ne (by omega), fI_wF_ne (by omega)]
    exact fI_wF_eq SX.kf.1 hL qi_8_13
  have y15 : zI M' L 15 = 0 := by
    rw [eM, fI_wF_ne (by omega), fI_wF_ne (by omega), fI_wF_ne (by omega), fI_wF_ne (by omega)]
    exact fI_wF_eq SX.kf.kf.1 hL qi_8_15
  have y16 : zI M' L 16 = 0 := by
    rw [eM, fI_wF_ne (by omega), fI_wF_ne (by omega), fI_wF_ne (by omega)]
    exact fI_wF_eq SX.kf.kf.kf.1 hL qi_8_16
  have y17 : zI M' L 17 = 0 := by
    rw [eM, fI_wF_ne (by omega), fI_wF_ne (by omega)]
    exact fI_wF_eq SX.kf.kf.kf.kf.1 hL qi_8_17
  have y18 : zI M' L 18 = 0 := by
    rw [eM, fI_wF_ne (by omega)]
    exact fI_wF_eq SX.kf.kf.kf.kf.kf.1 hL qi_8_18
  have y19 : zI M' L 19 = 0 := by
    rw [eM]
    exact fI_wF_eq SX.kf.kf.kf.kf.kf.kf.1 hL qi_8_19
  have zz : ∀ j, 2 ≤ j → j < 522 → parP wi de (rN M 2) j = 0 := fun j h2 h5 => parP_z h2 h5
  have i0 : (0 : Int32).toInt = 0 := rfl
  refine ⟨hv, S7, (F0.more (fun a k q => ⟨q.1, Or.inl q.2⟩) (fun _ q => q.elim) (fun _ q => q)).trans ((F1.more (fun _ _ q => q.elim) (fun a q => ⟨q.1, Nat.le_trans q.2 (by omega)⟩) (fun _ q => q)).trans ((FX.more (fun _ _ q => q.elim) (fun a q => ⟨Nat.le_trans (by omega) q.1, Nat.le_trans q.2 (by omega)⟩) (fun _ q => q)).trans (F7.more (fun a k q => ⟨q.1, Or.inr q.2⟩) (fun _ q => q.elim) (fun _ q => q)))), ⟨?_, ?_, ⟨by rw [y11, zz 2 (by decide) (by decide)], fun d hd => ?_⟩, by rw [y13, zz 12 (by decide) (by decide)], fun k hk => ?_⟩, ⟨by rw [y16, zz 518 (by decide) (by decide)], by rw [y17, zz 519 (by decide) (by decide)], by rw [y18, zz 520 (by decide) (by decide)], by rw [y19, zz 521 (by decide) (by decide)]⟩, fun k f hk hf => ?_, ⟨by rw [y15, zz 157 (by decide) (by decide)], fun k hk => ?_⟩, fun c hc => ?_⟩
  · exact (F7.fi (by omega)).trans ((FX.fi (fun q => q)).trans ((F1.fi (fun q => q)).trans z0))
  · exact (F7.fi (by omega)).trans ((FX.fi (fun q => q)).trans ((F1.fi (fun q => q)).trans z1))
  · rw [zz 2 (by decide) (by decide), i0] at hd
    exact absurd hd (Nat.not_lt_zero _)
  · rw [zz 12 (by decide) (by decide), i0] at hk
    exact absurd hk (Nat.not_lt_zero _)
  · have hk2 : k < wi.toInt.toNat * de.toInt.toNat := hk
    rw [parP_c hk2 hf]
    obtain ⟨q1, q2, q3⟩ := g1 k (Nat.zero_le _) (by rw [ew, ed]; exact hk2)
    have e2 : rN N 2 k = rN M 2 k := F0.rn (fun q => q)
    rw [e2] at q1 q2 q3
    obtain ⟨u1, u2, u3⟩ := by_bits (ho k hk2)
    have k256 : k < 256 := by rw [cw] at hk c2; omega
    match f, hf with
    | 0, _ => exact (F7.rn (fun q => q)).trans ((FX.rn (by unfold rn2; omega)).trans (q1.trans u1))
    | 1, _ => exact (F7.rn (fun q => q)).trans ((FX.rn (by unfold rn2; omega)).trans (q2.trans u2))
    | 2, _ => exact (F7.rn (fun q => q)).trans ((FX.rn (by unfold rn2; omega)).trans (q3.trans u3))
    | 3, _ => exact (F7.rn (fun q => q)).trans (x4 k k256)
    | 4, _ => exact (F7.rn (fun q => q)).trans (x5 k k256)
    | 5, _ => exact (F7.rn (fun q => q)).trans (x6 k k256)
    | 6, _ => exact (F7.rn (fun q => q)).trans (x7 k k256)
  · rw [zz 157 (by decide) (by decide), i0] at hk
    exact absurd hk (Nat.not_lt_zero _)
  · rw [zz 157 (by decide) (by decide), i0]
    have hc2 := hc.2
    have hc0 := hc.1
    rw [cw] at hc2 c2
    have e : rI M' (L + 8) c = rN M' (L + 8) c.toInt.toNat := rI_n (by omega)
    rw [e]
    exact (F7.rn (fun q => q)).trans (x8 _ (by omega))
end RNW
/-! THE CLASS'S shape, enter -/
def gdC (wi de : Int32) (M : Mem) (i : Nat) : Prop := rN M 106 i = nI i - nI i / wi * wi ∧ rN M 107 i = nI i / wi ∧ ∀ j, j < 8 → rN M 108 (8 * i + j) = besI wi de (nI i) (nI j)
/-- the rows of the grid are those of its size -/
def GRI (M : Mem) : Prop := ∀ i, i < (zI M 105 3).toInt.toNat * (zI M 105 4).toInt.toNat → gdC (zI M 105 3) (zI M 105 4) M i
def shgW (a : Nat) : Prop := 106 ≤ a ∧ a ≤ 108
def shgF (a k : Nat) : Prop := a = 105 ∧ 3 ≤ k
theorem sI_all : (List.range 8).all (fun n => decide (sI 1 (nI n) = eastI (nI n) ∧ sI 2 (nI n) = southI (nI n))) = true := by decide +kernel
theorem sI_es {d : Int32} {k : Nat} (hd : d.toInt = (k : Int)) (hk : k < 8) : d = nI k ∧ sI 1 d = eastI d ∧ sI 2 d = southI d := by
  have e : d = nI k := Int32.toInt_inj.mp (by rw [nI_toInt (by omega)]; exact hd)
  have q := of_decide_eq_true (List.all_eq_true.mp sI_all k (List.mem_range.mpr hk))
  rw [e]
  exact ⟨rfl, q⟩
section SHPE
variable {e L : Nat} {T : TS} {P : PK} {M M1 M' N : Mem} {v : Option Value} {n i k b B : Nat} {wi de c d : Int32}
theorem g2_bes (h6 : rI M 106 c = c - c / zI M 105 3 * zI M 105 3) (h7 : rI M 107 c = c / zI M 105 3) (h1 : sI 1 d = eastI d) (h2 : sI 2 d = southI d) : G_2 M (rI M 106 c + sI 1 d) (rI M 107 c + sI 2 d) = besI (zI M 105 3) (zI M 105 4) c d := by
  have o : ¬ ((1 : Int32) = 0) := by decide
  unfold G_2 G_126 besI
  rw [h6, h7, h1, h2]
  by_cases a1 : c - c / zI M 105 3 * zI M 105 3 + eastI d < 0
  · rw [if_pos a1, if_pos a1, if_pos rfl]
  · rw [if_neg a1, if_neg a1]
    by_cases a2 : zI M 105 3 - 1 < c - c / zI M 105 3 * zI M 105 3 + eastI d
    · rw [if_pos a2, if_pos a2, if_pos rfl]
    · rw [if_neg a2, if_neg a2, if_neg o]
      by_cases a3 : c / zI M 105 3 + southI d < 0
      · rw [if_pos a3, if_pos a3, if_pos rfl]
      · rw [if_neg a3, if_neg a3]
        by_cases a4 : zI M 105 4 - 1 < c / zI M 105 3 + southI d
        · rw [if_pos a4, if_pos a4, if_pos rfl]
        · rw [if_neg a4, if_neg a4, if_neg o]
theorem gdC.fz {F : Nat → Nat → Prop} {W O : Nat → Prop} (h : gdC wi de M i) (hF : FZ F W O M M') (hw : ∀ a, 106 ≤ a → a ≤ 108 → ¬ W a) : gdC wi de M' i := ⟨(hF.rn (hw _ (by decide) (by decide))).trans h.1, (hF.rn (hw _ (by decide) (by decide))).trans h.2.1, fun j hj => (hF.rn (hw _ (by decide) (by decide))).trans (h.2.2 j hj)⟩
theorem GRI.fz {F : Nat → Nat → Prop} {W O : Nat → Prop} (h : GRI M) (hF : FZ F W O M M') (h3 : ¬ F 105 3) (h4 : ¬ F 105 4) (hw : ∀ a, 106 ≤ a → a ≤ 108 → ¬ W a) : GRI M' := by
  have e3 : zI M' 105 3 = zI M 105 3 := hF.fi h3
  have e4 : zI M' 105 4 = zI M 105 4 := hF.fi h4
  unfold GRI
  rw [e3, e4]
  exact fun i hi => (h i hi).fz hF hw
theorem shp_in {i : Nat} (hi : i < 256) {cz : Int32} (hc : cz.toInt = (i : Int)) {w h : Int32} : ∀ (r k : Nat) (dz : Int32) (N : Mem), SQ N → zI N 105 3 = w → zI N 105 4 = h → rI N 106 cz = cz - cz / w * w → rI N 107 cz = cz / w → dz.toInt = (k : Int) → k + r = 8 → Ev none e 1 76 [some (.ref 105), some (.int wi), some (.int de), some (.int cz), some (.int dz)] [] N v M' 0 0 → ∃ N1 d1, SQ N1 ∧ FZ noF (fun a => a = 108) noO N N1 ∧ (∀ j, k ≤ j → j < 8 → rN N1 108 (8 * i + j) = besI w h cz (nI j)) ∧ (∀ j, ¬ (8 * i + k ≤ j ∧ j < 8 * i + 8) → rN N1 108 j = rN N 108 j) ∧ Ev none e 1 29 [some (.ref 105), some (.int wi), some (.int de), some (.int (cz + 1)), some (.int d1)] [] N1 v M' 0 0 := by
  have t8 : (8 : Int32).toInt = 8 := rfl
  intro r
  induction r with
  | zero =>
    intro k dz N hS e3 e4 h6 h7 hk hkr H
    rcases shp_76 hS H with ⟨_, H⟩ | ⟨a1, _⟩
    · exact ⟨N, _, hS, FZ.refl _, fun j h3 h4 => by omega, fun _ _ => rfl, H⟩
    · exact absurd (Int32.le_iff_toInt_le.mpr (by omega)) a1
  | succ r ih =>
    intro k dz N hS e3 e4 h6 h7 hk hkr H
    rcases shp_76 hS H with ⟨a1, _⟩ | ⟨_, _, _, _, H⟩
    · have := Int32.le_iff_toInt_le.mp a1
      omega
    · obtain ⟨ed, s1, s2⟩ := sI_es hk (by omega)
      have h6' : rI N 106 cz = cz - cz / zI N 105 3 * zI N 105 3 := by rw [e3]; exact h6
      have h7' : rI N 107 cz = cz / zI N 105 3 := by rw [e3]; exact h7
      rw [g2_bes h6' h7' s1 s2, e3, e4] at H
      have m8 : (8 * cz).toInt = 8 * cz.toInt := i32_mul (by rw [t8]; omega) (by rw [t8]; omega)
      have ix : (8 * cz + dz).toNatClampNeg = 8 * i + k := cl_n (by rw [i32_add (by omega) (by omega), m8]; omega)
      rw [ix] at H
      obtain ⟨N1, eN⟩ : ∃ N1, N1 = wI N 108 (8 * i + k) (besI w h cz dz) := ⟨_, rfl⟩
      rw [← eN] at H
      have hS1 : SQ N1 := by rw [eN]; exact hS.ki
      have hF : FZ noF (fun a => a = 108) noO N N1 := by rw [eN]; exact FZ.wI (W := fun a => a = 108) rfl
      have y : rN N1 108 (8 * i + k) = besI w h cz (nI k) := by
        rw [eN, ← ed]
        exact rN_wI_eq (by rw [(hS.1.row qa_108 qw_26).2]; omega)
      have yo : ∀ j, j ≠ 8 * i + k → rN N1 108 j = rN N 108 j := fun j hj => by rw [eN, rN_wI_ne (fun q => hj q.2)]
      have g6 : rI N1 106 cz = rI N 106 cz := hF.rn (by omega)
      have g7 : rI N1 107 cz = rI N 107 cz := hF.rn (by omega)
      obtain ⟨N2, d1, r1, r2, r3, r4, r5⟩ := ih (k + 1) (dz + 1) N1 hS1 ((hF.fi (fun q => q)).trans e3) ((hF.fi (fun q => q)).trans e4) (g6.trans h6) (g7.trans h7) (by rw [i32_p1 (by omega)]; omega) (by omega) H
      refine ⟨N2, d1, r1, hF.trans r2, fun j h3 h4 => ?_, fun j h3 => ?_, r5⟩
      · by_cases hjk : j = k
        · subst hjk
          rw [r4 _ (by omega)]
          exact y
        · exact r3 j (by omega) h4
      · rw [r4 j (by omega)]
        exact yo j (by omega)
theorem shp_out {w h : Int32} (hw : 4 ≤ w.toInt ∧ w.toInt ≤ 16) (hn : n ≤ 256) : ∀ (r k : Nat) (cz : Int32) (c4 : Option Value) (N : Mem), SQ N → zI N 105 3 = w → zI N 105 4 = h → (zI N 105 3 * zI N 105 4).toInt = (n : Int) → cz.toInt = (k : Int) → k + r = n → (∀ i, i < k → gdC w h N i) → Ev none e 1 29 [some (.ref 105), some (.int wi), some (.int de), some (.int cz), c4] [] N v M' 0 0 → v = none ∧ SQ M' ∧ FZ noF shgW noO N M' ∧ ∀ i, i < n → gdC w h M' i := by
  intro r
  induction r with
  | zero =>
    intro k cz c4 N hS e3 e4 hm hk hkr hg H
    have hkn : k = n := by omega
    rcases shp_29 hS H with ⟨_, hv, rfl⟩ | ⟨a1, _⟩ | ⟨a1, _⟩
    · exact ⟨hv, hS, FZ.refl _, fun i hi => hg i (by omega)⟩
    · exact absurd (Int32.le_iff_toInt_le.mpr (by omega)) a1
    · exact absurd (Int32.le_iff_toInt_le.mpr (by omega)) a1
  | succ r ih =>
    intro k cz c4 N hS e3 e4 hm hk hkr hg H
    have t256 : (256 : Int32).toInt = 256 := rfl
    rcases shp_29 hS H with ⟨a1, _⟩ | ⟨_, a1, _⟩ | ⟨_, _, _, _, _, _, H⟩
    · have := Int32.le_iff_toInt_le.mp a1
      omega
    · have := Int32.le_iff_toInt_le.mp a1
      omega
    · rw [cl_n hk, e3] at H
      have ec : cz = nI k := Int32.toInt_inj.mp (by rw [nI_toInt (by omega)]; exact hk)
      obtain ⟨N1, eN⟩ : ∃ N1, N1 = wI (wI N 106 k (cz - cz / w * w)) 107 k (cz / w) := ⟨_, rfl⟩
      rw [← eN] at H
      have hS1 : SQ N1 := by rw [eN]; exact hS.ki.ki
      have hF : FZ noF (fun a => a = 106 ∨ a = 107) noO N N1 := by
        rw [eN]
        exact (FZ.wI (W := fun a => a = 106 ∨ a = 107) (Or.inl rfl)).trans (FZ.wI (Or.inr rfl))
      have y6 : rN N1 106 k = cz - cz / w * w := by
        rw [eN, rN_wI_ne (by omega)]
        exact rN_wI_eq (by rw [(hS.1.row qa_106 qw_24).2]; omega)
      have y7 : rN N1 107 k = cz / w := by
        rw [eN]
        exact rN_wI_eq (by rw [(hS.ki.1.row qa_107 qw_25).2]; omega)
      have yo : ∀ j, j ≠ k → rN N1 106 j = rN N 106 j ∧ rN N1 107 j = rN N 107 j := fun j hj => by
        rw [eN, rN_wI_ne (by omega), rN_wI_ne (by omega), rN_wI_ne (by omega), rN_wI_ne (by omega)]
        exact ⟨rfl, rfl⟩
      have x3 : zI N1 105 3 = w := (hF.fi (fun q => q)).trans e3
      have x4 : zI N1 105 4 = h := (hF.fi (fun q => q)).trans e4
      obtain ⟨N2, d1, r1, r2, r3, r4, H⟩ := shp_in (by omega) hk 8 0 0 N1 hS1 x3 x4 ((rI_n hk).trans y6) ((rI_n hk).trans y7) rfl rfl H
      have z3 : zI N2 105 3 = w := (r2.fi (fun q => q)).trans x3
      have z4 : zI N2 105 4 = h := (r2.fi (fun q => q)).trans x4
      have hg2 : ∀ i, i < k + 1 → gdC w h N2 i := fun i hi => by
        have p6 : rN N2 106 i = rN N1 106 i := r2.rn (by omega)
        have p7 : rN N2 107 i = rN N1 107 i := r2.rn (by omega)
        by_cases hik : i = k
        · subst hik
          refine ⟨?_, ?_, fun j hj => ?_⟩
          · rw [p6, y6, ec]
          · rw [p7, y7, ec]
          · rw [r3 j (Nat.zero_le _) hj, ec]
        · obtain ⟨g1, g2, g3⟩ := hg i (by omega)
          obtain ⟨o6, o7⟩ := yo i hik
          refine ⟨p6.trans (o6.trans g1), p7.trans (o7.trans g2), fun j hj => ?_⟩
          rw [r4 _ (by omega)]
          have : rN N1 108 (8 * i + j) = rN N 108 (8 * i + j) := hF.rn (by omega)
          exact this.trans (g3 j hj)
      obtain ⟨u1, u2, u3, u4⟩ := ih (k + 1) (cz + 1) _ N2 r1 z3 z4 (by rw [z3, z4, ← e3, ← e4]; exact hm) (by rw [i32_p1 (by omega)]; omega) (by omega) hg2 H
      exact ⟨u1, u2, (hF.more (fun _ _ q => q) (fun a q => by unfold shgW; omega) (fun _ q => q)).trans ((r2.more (fun _ _ q => q) (fun a q => by unfold shgW; omega) (fun _ q => q)).trans u3), u4⟩
theorem shape_ok (hS : SQ M) (hw : 4 ≤ wi.toInt ∧ wi.toInt ≤ 16) (hd : 4 ≤ de.toInt ∧ de.toInt ≤ 16) (hG : GRI M) (H : Ev none e 1 0 [some (.ref 105), some (.int wi), some (.int de), none, none] [] M v M' 0 0) : v = none ∧ SQ M' ∧ FZ shgF shgW noO M M' ∧ GRI M' ∧ zI M' 105 3 = wi ∧ zI M' 105 4 = de := by
  have go : ∀ c4, Ev none e 1 29 [some (.ref 105), some (.int wi), some (.int de), some (.int 0), c4] [] (wF (wF M 105 3 wi) 105 4 de) v M' 0 0 → v = none ∧ SQ M' ∧ FZ shgF shgW noO M M' ∧ GRI M' ∧ zI M' 105 3 = wi ∧ zI M' 105 4 = de := fun c4 H => by
    obtain ⟨N, eN⟩ : ∃ N, N = wF (wF M 105 3 wi) 105 4 de := ⟨_, rfl⟩
    rw [← eN] at H
    have hS1 : SQ N := by rw [eN]; exact hS.kf.kf
    have hF : FZ shgF noO noO M N := by
      rw [eN]
      exact (FZ.wF (F := shgF) ⟨rfl, by decide⟩).trans (FZ.wF ⟨rfl, by decide⟩)
    have e3 : zI N 105 3 = wi := by rw [eN, fI_wF_ne (by omega)]; exact fI_wF_eq hS.1 qa_105 qi_23_3
    have e4 : zI N 105 4 = de := by rw [eN]; exact fI_wF_eq hS.kf.1 qa_105 qi_23_4
    obtain ⟨c1, c2, _⟩ := cls_int (parP_wh (o := rN M 2) hw hd)
    have cw : clsP (parP wi de (rN M 2)) = wi.toInt.toNat * de.toInt.toNat := rfl
    rw [cw] at c1 c2
    rw [parP_0, parP_1] at c1
    obtain ⟨u1, u2, u3, u4⟩ := shp_out hw (n := wi.toInt.toNat * de.toInt.toNat) (by omega) (wi.toInt.toNat * de.toInt.toNat) 0 0 c4 N hS1 e3 e4 (by rw [e3, e4, i32_mul (by omega) (by omega)]; exact c1.symm) rfl (by omega) (fun i hi => absurd hi (Nat.not_lt_zero _)) H
    have x3 : zI M' 105 3 = wi := (u3.fi (fun q => q)).trans e3
    have x4 : zI M' 105 4 = de := (u3.fi (fun q => q)).trans e4
    refine ⟨u1, u2, (hF.more (fun _ _ q => q) (fun _ q => q.elim) (fun _ q => q)).trans (u3.more (fun _ _ q => q.elim) (fun _ q => q) (fun _ q => q)), ?_, x3, x4⟩
    unfold GRI
    rw [x3, x4]
    exact u4
  rcases shp_0 hS H with ⟨h3, h4, hv, rfl⟩ | ⟨_, _, H⟩ | ⟨_, H⟩
  · exact ⟨hv, hS, FZ.refl _, hG, h3.symm, h4.symm⟩
  · exact go _ H
  · exact go _ H
theorem GRI.grd (hG : GRI M) (hw : wh4 P) (h3 : zI M 105 3 = P 0) (h4 : zI M 105 4 = P 1) : GRD P M := by
  intro c hc
  obtain ⟨i, ei⟩ : ∃ i, i = c.toInt.toNat := ⟨_, rfl⟩
  have h0 := hc.1
  have h1 := hc.2
  obtain ⟨_, c256, _⟩ := cls_int hw
  have ci : c.toInt = (i : Int) := by omega
  have ec : c = nI i := Int32.toInt_inj.mp (by rw [nI_toInt (by omega)]; exact ci)
  unfold GRI at hG
  rw [h3, h4] at hG
  obtain ⟨g1, g2, g3⟩ := hG i (by rw [ei]; exact h1)
  refine ⟨(rI_n ci).trans (by rw [ec]; exact g1), (rI_n ci).trans (by rw [ec]; exact g2), fun d d0 d1 => ?_⟩
  obtain ⟨k, ek⟩ : ∃ k, k = d.toInt.toNat := ⟨_, rfl⟩
  have dk : d.toInt = (k : Int) := by omega
  have ed : d = nI k := Int32.toInt_inj.mp (by rw [nI_toInt (by omega)]; exact dk)
  have t8 : (8 : Int32).toInt = 8 := rfl
  have m8 : (8 * c).toInt = 8 * c.toInt := i32_mul (by rw [t8]; omega) (by rw [t8]; omega)
  have ix : (8 * c + d).toInt = ((8 * i + k : Nat) : Int) := by rw [i32_add (by omega) (by omega), m8]; omega
  rw [rI_n ix, g3 k (by omega)]
  unfold besP
  rw [← ec, ← ed]
/-- what enter asks of the texts -/
def TXc (T : TS) (M : Mem) : Prop := (TXT M (fR M 104 2) (T 0) ∧ LW (T 0)) ∧ ∀ h, h < 6 → TXT M (oN M 109 h) (T (h + 1)) ∧ LW (T (h + 1))
def enF (a k : Nat) : Prop := shgF a k ∨ (a = 104 ∧ 7 ≤ k)
def enW (a : Nat) : Prop := shgW a ∨ a = 128
theorem enter_ok (hS : SQ M) (hL : gNth sT L = some 8) (hw : wh4 P) (hn : ∀ c, inC P c → nnC P c) (hG : GRI M) (hX : SXc M) (hT : TXc T M) (hA : LAN L P M) (hx : WXr L M) (hk : WKs L M) (n24 : (P 12).toInt ≤ 24) (k60 : (P 157).toInt ≤ 60) (H : Ev none e 54 0 [some (.ref 104), some (.ref L)] [] M v M' 0 0) : v = none ∧ STA L T P M' ∧ LST L P M' ∧ FZ enF enW noO M M' ∧ GRI M' ∧ zI M' 105 3 = P 0 ∧ zI M' 105 4 = P 1 ∧ WFl (-1) [] M' := by
  have hl := ld_cases hL
  obtain ⟨e1, v1, M1, rfl, H1, H⟩ := ent_0 hS hL H
  have S0 : SQ (wR M 104 7 L) := hS.kr_22_7 hL
  obtain ⟨N0, eN0⟩ : ∃ N0, N0 = wR M 104 7 L := ⟨_, rfl⟩
  rw [← eN0] at S0 H1
  have F0 : FZ (fun a k => a = 104 ∧ k = 7) noO noO M N0 := by rw [eN0]; exact FZ.wR ⟨rfl, rfl⟩
  have r0 : fR N0 104 7 = L := by rw [eN0]; exact fR_wR_eq hS.1 qa_104 qk_22_7
  rw [hA.1.1, hA.1.2.1] at H1
  obtain ⟨hv1, S1, F1, G1, z3, z4⟩ := shape_ok S0 ⟨hw.1, hw.2.1⟩ ⟨hw.2.2.1, hw.2.2.2⟩ (hG.fz F0 (by omega) (by omega) (fun _ _ _ q => q)) H1
  rw [hv1] at H
  obtain ⟨hv, eM⟩ := ent_26 S1 hL H
  obtain ⟨X, eX⟩ : ∃ X, X = wF (wF (wF M1 104 8 0) 104 9 (-1)) 104 10 0 := ⟨_, rfl⟩
  rw [← eX] at eM
  have SX : SQ X := by rw [eX]; exact S1.kf.kf.kf
  have FX : FZ (fun a k => a = 104 ∧ 8 ≤ k) noO noO M1 X := by
    rw [eX]
    exact ((FZ.wF (F := fun a k => a = 104 ∧ 8 ≤ k) ⟨rfl, by decide⟩).trans (FZ.wF ⟨rfl, by decide⟩)).trans (FZ.wF ⟨rfl, by decide⟩)
  have x8 : zI X 104 8 = 0 := by rw [eX, fI_wF_ne (by omega), fI_wF_ne (by omega)]; exact fI_wF_eq S1.1 qa_104 qi_22_8
  have x9 : zI X 104 9 = -1 := by rw [eX, fI_wF_ne (by omega)]; exact fI_wF_eq S1.kf.1 qa_104 qi_22_9
  have x10 : zI X 104 10 = 0 := by rw [eX]; exact fI_wF_eq S1.kf.kf.1 qa_104 qi_22_10
  have eM2 : M' = wA X 128 (-1) := eM
  have SM : SQ M' := by rw [eM2]; exact SX.ka
  have FM : FZ noF (fun a => a = 128) noO X M' := by rw [eM2]; exact FZ.wA (W := fun a => a = 128) rfl
  have y128 : ∀ j, j < 1536 → rN M' 128 j = -1 := fun j hj => by rw [eM2]; exact rN_wA_eq SX.1 qa_128 qw_37 hj
  have FA : FZ enF enW noO M M' := (F0.more (fun a k q => Or.inr ⟨q.1, by omega⟩) (fun _ q => q.elim) (fun _ q => q)).trans ((F1.more (fun a k q => Or.inl q) (fun a q => Or.inl q) (fun _ q => q)).trans ((FX.more (fun a k q => Or.inr ⟨q.1, by omega⟩) (fun _ q => q.elim) (fun _ q => q)).trans (FM.more (fun _ _ q => q.elim) (fun a q => Or.inr q) (fun _ q => q))))
  have r7 : fR M' 104 7 = L := (FM.fr (fun q => q)).trans ((FX.fr (by omega)).trans ((F1.fr (by unfold shgF; omega)).trans r0))
  have r2 : fR M' 104 2 = fR M 104 2 := FA.fr (by unfold enF shgF; omega)
  have lan : LAN L P M' := hA.fz FA (fun a k a1 a2 => by unfold enF shgF; omega) (fun a a1 a2 => by unfold enW shgW; omega) (fun q => q) hk n24 k60
  obtain ⟨⟨t1, t2⟩, t3⟩ := hT
  have ht : gNth sT (fR M 104 2) = some 28 := law_t hS.1
  have tf : ∀ t, gNth sT t = some 28 → (∀ k, ¬ enF t k) ∧ ∀ k, 1 ≤ k → k ≤ 8 → ¬ enW (t + k) := fun t ht => by
    have := tx_cases ht
    exact ⟨fun k => by unfold enF shgF; omega, fun k k1 k8 => by unfold enW shgW; omega⟩
  have T0 : TXT M' (fR M' 104 2) (T 0) := by rw [r2]; exact t1.fz FA (tf _ ht).1 (tf _ ht).2
  have TH : ∀ h, h < 6 → TXT M' (oN M' 109 h) (T (h + 1)) ∧ LW (T (h + 1)) := fun h hh => by
    rw [FA.on (fun q => q)]
    have q := tf _ (hab_t hS.1 hh)
    exact ⟨(t3 h hh).1.fz FA q.1 q.2, (t3 h hh).2⟩
  have q34 : zI M' 105 3 = P 0 ∧ zI M' 105 4 = P 1 := ⟨(FM.fi (fun q => q)).trans ((FX.fi (by omega)).trans z3), (FM.fi (fun q => q)).trans ((FX.fi (by omega)).trans z4)⟩
  have GM : GRI M' := (G1.fz FX (by omega) (by omega) (fun _ _ _ q => q)).fz FM (fun q => q) (fun q => q) (fun a _ _ => by omega)
  refine ⟨hv, ⟨⟨⟨SM, r7, hL, ?_, ?_, ?_, lan.2.2.1⟩, hw, hn, fun m hm => (FA.on (fun q => q)).trans (hX m hm), GM.grd hw q34.1 q34.2, ⟨T0, t2⟩, TH, lan.2.2.2.2⟩, vc_new y128 hw, lan.1, lan.2.1, fun k hk => (FA.on (fun q => q)).trans (hx k hk), hk.on (fun j => FA.on (fun q => q)), (FM.fi (fun q => q)).trans x8⟩, lan.2.2.2.1, FA, GM, q34.1, q34.2, ?_⟩
  · exact T0.2.2.1
  · exact T0.2.2.2.1
  · exact T0.2.2.2.2.1
  · refine ⟨(FM.fi (fun q => q)).trans x9, (FM.fi (fun q => q)).trans (x10.trans ?_)⟩
    rw [decide_eq_false (by simp)]
    rfl
end SHPE
/-! THE CLASS'S game: pieces of its calls on the live land (made by gwal4.py) -/
theorem hsd_0 {e : Nat} {M M' : Mem} {v : Option Value} {c : Int32} {L : Nat} (hS : SQ M) (a_L : gNth sT L = some 8) (H : Ev none e 9 0 [some (.ref L), some (.int c), none] [] M v M' 0 0) : Ev none e 9 2 [some (.ref L), some (.int c), some (.int 0)] [] M v M' 0 0 := by
  have H : Ev none e 9 2 [some (.ref L), some (.int c), some (.int 0)] [] M v M' 0 0 := Ev.back 2 (fun n => rfl) H
  have HF := H
  exact HF
theorem hsd_2 {e : Nat} {M M' : Mem} {v : Option Value} {c k : Int32} {L : Nat} (hS : SQ M) (a_L : gNth sT L = some 8) (H : Ev none e 9 2 [some (.ref L), some (.int c), some (.int k)] [] M v M' 0 0) : ((zI M L 11) ≤ k ∧ v = some (.int 0) ∧ M' = M) ∨ (¬ ((zI M L 11) ≤ k) ∧ (rI M (L + 9) k) = c ∧ (0 ≤ k.toInt ∧ k.toInt < 9) ∧ v = some (.int 1) ∧ M' = M) ∨ (¬ ((zI M L 11) ≤ k) ∧ ¬ ((rI M (L + 9) k) = c) ∧ (0 ≤ k.toInt ∧ k.toInt < 9) ∧ Ev none e 9 2 [some (.ref L), some (.int c), some (.int (k + 1))] [] M v M' 0 0) := by
  have H : Ev none e 9 4 [some (.ref L), some (.int c), some (.int k)] [.ref L, .int k] M v M' 0 0 := Ev.back 2 (fun n => rfl) H
  have H : Ev none e 9 7 [some (.ref L), some (.int c), some (.int k)] [.int (zI M L 11), .int k] M v M' 0 0 := Ev.back 1 (gs_3 rfl rfl (gf_i hS.1 a_L qi_8_11 rfl)) H
  have H : Ev none e 9 (if (zI M L 11) ≤ k then 28 else 10) [some (.ref L), some (.int c), some (.int k)] [] M v M' 0 0 := Ev.back 1 (fun n => rfl) H
  by_cases h1 : (zI M L 11) ≤ k
  · rw [if_pos h1] at H
    have H : Ev none e 9 29 [some (.ref L), some (.int c), some (.int k)] [.int 0] M v M' 0 0 := Ev.back 1 (fun n => rfl) H
    obtain ⟨z1, z2⟩ := Ev.retz rfl rfl H
    exact Or.inl ⟨h1, z1, z2⟩
  · rw [if_neg h1] at H
    have H : Ev none e 9 11 [some (.ref L), some (.int c), some (.int k)] [.ref L] M v M' 0 0 := Ev.back 1 (fun n => rfl) H
    have H : Ev none e 9 14 [some (.ref L), some (.int c), some (.int k)] [.ref (L + 9)] M v M' 0 0 := Ev.back 1 (gs_3 rfl rfl (gf_x hS.1 a_L qo_8 (fx_l10 hS a_L) rfl)) H
    have H : Ev none e 9 15 [some (.ref L), some (.int c), some (.int k)] [.int k, .ref (L + 9)] M v M' 0 0 := Ev.back 1 (fun n => rfl) H
    obtain ⟨b2, H⟩ := Ev.ial rfl rfl hS.1 (fx_h10 a_L) qw_17 H
    have H : Ev none e 9 16 [some (.ref L), some (.int c), some (.int k)] [.int (rI M (L + 9) k)] M v M' 0 0 := H
    have H : Ev none e 9 (if (rI M (L + 9) k) = c then 20 else 22) [some (.ref L), some (.int c), some (.int k)] [] M v M' 0 0 := Ev.back 2 (fun n => rfl) H
    by_cases h3 : (rI M (L + 9) k) = c
    · rw [if_pos h3] at H
      have H : Ev none e 9 21 [some (.ref L), some (.int c), some (.int k)] [.int 1] M v M' 0 0 := Ev.back 1 (fun n => rfl) H
      obtain ⟨z1, z2⟩ := Ev.retz rfl rfl H
      exact Or.inr (Or.inl ⟨h1, h3, b2, z1, z2⟩)
    · rw [if_neg h3] at H
      have H : Ev none e 9 2 [some (.ref L), some (.int c), some (.int (k + 1))] [] M v M' 0 0 := Ev.back 2 (fun n => rfl) H
      have HF := H
      exact Or.inr (Or.inr (⟨h1, h3, b2, HF⟩))
noncomputable def X_10 (M : Mem) (L : Nat) (c : Int32) (k : Int32) : Mem := if (G_8 (wI M (L + 1) c.toNatClampNeg k) L c) = 0 then (wI (wI M (L + 1) c.toNatClampNeg k) (L + 4) c.toNatClampNeg 0) else (wI M (L + 1) c.toNatClampNeg k)
theorem g_10 {e : Nat} {M M' : Mem} {v : Option Value} {c k : Int32} {L : Nat} (hS : SQ M) (a_L : gNth sT L = some 8) (H : Ev none e 10 0 [some (.ref L), some (.int c), some (.int k)] [] M v M' 0 0) : v = none ∧ M' = X_10 M L c k := by
  unfold X_10
  have H : Ev none e 10 1 [some (.ref L), some (.int c), some (.int k)] [.ref L] M v M' 0 0 := Ev.back 1 (fun n => rfl) H
  have H : Ev none e 10 4 [some (.ref L), some (.int c), some (.int k)] [.ref (L + 1)] M v M' 0 0 := Ev.back 1 (gs_3 rfl rfl (gf_x hS.1 a_L qo_8 (fx_l2 hS a_L) rfl)) H
  have H : Ev none e 10 6 [some (.ref L), some (.int c), some (.int k)] [.int k, .int c, .ref (L + 1)] M v M' 0 0 := Ev.back 2 (fun n => rfl) H
  obtain ⟨b1, H⟩ := Ev.ias rfl rfl hS.1 (fx_h2 a_L) qw_9 H
  obtain ⟨N2, eN2⟩ : ∃ N, N = (wI M (L + 1) c.toNatClampNeg k) := ⟨_, rfl⟩
  have hN2 : SQ N2 := by rw [eN2]; exact hS.ki
  have H : Ev none e 10 7 [some (.ref L), some (.int c), some (.int k)] [] N2 v M' 0 0 := by rw [eN2]; exact H
  have H : Ev none e 10 9 [some (.ref L), some (.int c), some (.int k)] [.int c, .ref L] N2 v M' 0 0 := Ev.back 2 (fun n => rfl) H
  obtain ⟨e1, rfl⟩ := Ev.dpos rfl rfl H
  obtain ⟨vK3, MK3, K3, H⟩ := Ev.callb (fun n_ => gs_7 rfl rfl (show gCal (.invokevirtual 63) 1 (.int c :: .ref L :: []) N2 = some (.inr (8, [some (.ref L), some (.int c)], [])) from by show @cond (Option ((List Value × Mem) ⊕ (Nat × Lo × List Value))) (true && gRecv N2 (.ref L) 1 && gRoom [] && true) (some (.inr (8, [some (.ref L), some (.int c)], []))) none = _; rw [recv_s hN2.1 a_L qo_8]; rfl)) H
  obtain ⟨pK3, qK3⟩ := g_8 hN2 a_L K3
  rw [pK3, qK3] at H
  have H : Ev none (e1 + 1) 10 12 [some (.ref L), some (.int c), some (.int k)] [.int (G_8 N2 L c)] N2 v M' 0 0 := H
  have H : Ev none (e1 + 1) 10 (if (G_8 N2 L c) = 0 then 15 else 22) [some (.ref L), some (.int c), some (.int k)] [] N2 v M' 0 0 := Ev.back 1 (fun n => rfl) H
  by_cases h4 : (G_8 N2 L c) = 0
  · rw [if_pos h4] at H
    have H : Ev none (e1 + 1) 10 16 [some (.ref L), some (.int c), some (.int k)] [.ref L] N2 v M' 0 0 := Ev.back 1 (fun n => rfl) H
    have H : Ev none (e1 + 1) 10 19 [some (.ref L), some (.int c), some (.int k)] [.ref (L + 4)] N2 v M' 0 0 := Ev.back 1 (gs_3 rfl rfl (gf_x hN2.1 a_L qo_8 (fx_l5 hN2 a_L) rfl)) H
    have H : Ev none (e1 + 1) 10 21 [some (.ref L), some (.int c), some (.int k)] [.int 0, .int c, .ref (L + 4)] N2 v M' 0 0 := Ev.back 2 (fun n => rfl) H
    obtain ⟨b5, H⟩ := Ev.ias rfl rfl hN2.1 (fx_h5 a_L) qw_12 H
    obtain ⟨N6, eN6⟩ : ∃ N, N = (wI N2 (L + 4) c.toNatClampNeg 0) := ⟨_, rfl⟩
    have hN6 : SQ N6 := by rw [eN6]; exact hN2.ki
    have H : Ev none (e1 + 1) 10 22 [some (.ref L), some (.int c), some (.int k)] [] N6 v M' 0 0 := by rw [eN6]; exact H
    obtain ⟨p1, p2⟩ := Ev.retb (fun n => rfl) H
    subst eN2 eN6
    exact ⟨p1, by rw [if_pos h4]; exact p2⟩
  · rw [if_neg h4] at H
    obtain ⟨p1, p2⟩ := Ev.retb (fun n => rfl) H
    subst eN2
    exact ⟨p1, by rw [if_neg h4]; exact p2⟩
theorem X_10_sx {M : Mem} {c k : Int32} {L : Nat} (hS : SQ M) (a_L : gNth sT L = some 8) : SQ (X_10 M L c k) := by
  unfold X_10
  split
  · exact (hS.ki).ki
  · exact hS.ki
theorem isc_0 {e : Nat} {M M' : Mem} {v : Option Value} {c : Int32} (hS : SQ M) (hLd : fR M 0 2 = 8) (H : Ev none e 127 0 [some (.ref 0), some (.int c)] [] M v M' 0 0) : v = some (.int (G_126 M c 0 ((G_6 M 8) - 1))) ∧ M' = M := by
  have H : Ev none e 127 3 [some (.ref 0), some (.int c)] [.ref 0, .int 0, .int c] M v M' 0 0 := Ev.back 3 (fun n => rfl) H
  have H : Ev none e 127 6 [some (.ref 0), some (.int c)] [.ref (fR M 0 2), .int 0, .int c] M v M' 0 0 := Ev.back 1 (gs_3 rfl rfl (gf_r hS.1 qa_0 qr_0_2 rfl)) H
  rw [hLd] at H
  obtain ⟨e1, rfl⟩ := Ev.dpos rfl rfl H
  obtain ⟨vK1, MK1, K1, H⟩ := Ev.callb (fun n_ => gs_7 rfl rfl (show gCal (.invokevirtual 211) 10 (.ref 8 :: [.int 0, .int c]) M = some (.inr (6, [some (.ref 8)], [.int 0, .int c])) from by show @cond (Option ((List Value × Mem) ⊕ (Nat × Lo × List Value))) (true && gRecv M (.ref 8) 1 && gRoom [.int 0, .int c] && true) (some (.inr (6, [some (.ref 8)], [.int 0, .int c]))) none = _; rw [recv_s hS.1 qa_8 qo_8]; rfl)) H
  obtain ⟨pK1, qK1⟩ := g_6 hS qa_8 K1
  rw [pK1, qK1] at H
  have H : Ev none (e1 + 1) 127 9 [some (.ref 0), some (.int c)] [.int (G_6 M 8), .int 0, .int c] M v M' 0 0 := H
  have H : Ev none (e1 + 1) 127 11 [some (.ref 0), some (.int c)] [.int ((G_6 M 8) - 1), .int 0, .int c] M v M' 0 0 := Ev.back 2 (fun n => rfl) H
  obtain ⟨vK2, MK2, K2, H⟩ := Ev.callb (fun n => rfl) H
  obtain ⟨pK2, qK2⟩ := g_126 hS K2
  rw [pK2, qK2] at H
  have H : Ev none (e1 + 1) 127 14 [some (.ref 0), some (.int c)] [.int (G_126 M c 0 ((G_6 M 8) - 1))] M v M' 0 0 := H
  obtain ⟨z1, z2⟩ := Ev.retz rfl rfl H
  exact ⟨z1, z2⟩
theorem isd_0 {e : Nat} {M M' : Mem} {v : Option Value} {d : Int32} (hS : SQ M) (hLd : fR M 0 2 = 8) (H : Ev none e 128 0 [some (.ref 0), some (.int d)] [] M v M' 0 0) : v = some (.int (G_126 M d 0 ((zI M 8 11) - 1))) ∧ M' = M := by
  have H : Ev none e 128 3 [some (.ref 0), some (.int d)] [.ref 0, .int 0, .int d] M v M' 0 0 := Ev.back 3 (fun n => rfl) H
  have H : Ev none e 128 6 [some (.ref 0), some (.int d)] [.ref (fR M 0 2), .int 0, .int d] M v M' 0 0 := Ev.back 1 (gs_3 rfl rfl (gf_r hS.1 qa_0 qr_0_2 rfl)) H
  rw [hLd] at H
  have H : Ev none e 128 9 [some (.ref 0), some (.int d)] [.int (zI M 8 11), .int 0, .int d] M v M' 0 0 := Ev.back 1 (gs_3 rfl rfl (gf_i hS.1 qa_8 qi_8_11 rfl)) H
  have H : Ev none e 128 11 [some (.ref 0), some (.int d)] [.int ((zI M 8 11) - 1), .int 0, .int d] M v M' 0 0 := Ev.back 2 (fun n => rfl) H
  obtain ⟨e1, rfl⟩ := Ev.dpos rfl rfl H
  obtain ⟨vK1, MK1, K1, H⟩ := Ev.callb (fun n => rfl) H
  obtain ⟨pK1, qK1⟩ := g_126 hS K1
  rw [pK1, qK1] at H
  have H : Ev none (e1 + 1) 128 14 [some (.ref 0), some (.int d)] [.int (G_126 M d 0 ((zI M 8 11) - 1))] M v M' 0 0 := H
  obtain ⟨z1, z2⟩ := Ev.retz rfl rfl H
  exact ⟨z1, z2⟩
theorem twd_0 {e : Nat} {M M' : Mem} {v : Option Value} {x y : Int32} (hS : SQ M) (hLd : fR M 0 2 = 8) (H : Ev none e 129 0 [some (.ref 0), some (.int x), some (.int y)] [] M v M' 0 0) : (∃ e1 v1 M1, e = e1 + 1 ∧ Ev none e1 128 0 [some (.ref 0), some (.int x)] [] M v1 M1 0 0 ∧ Ev none e 129 5 [some (.ref 0), some (.int x), some (.int y)] (v1.toList ++ []) M1 v M' 0 0) := by
  have H : Ev none e 129 2 [some (.ref 0), some (.int x), some (.int y)] [.int x, .ref 0] M v M' 0 0 := Ev.back 2 (fun n => rfl) H
  obtain ⟨e1, rfl⟩ := Ev.dpos rfl rfl H
  obtain ⟨vK1, MK1, K1, H⟩ := Ev.callb (fun n_ => gs_7 rfl rfl (show gCal (.invokevirtual 302) 10 (.int x :: .ref 0 :: []) M = some (.inr (128, [some (.ref 0), some (.int x)], [])) from by show @cond (Option ((List Value × Mem) ⊕ (Nat × Lo × List Value))) (true && gRecv M (.ref 0) 10 && gRoom [] && true) (some (.inr (128, [some (.ref 0), some (.int x)], []))) none = _; rw [recv_s hS.1 qa_0 qo_0]; rfl)) H
  have K1 : Ev none e1 128 0 [some (.ref 0), some (.int x)] [] M vK1 MK1 0 0 := K1
  have HF := H
  exact ⟨e1, vK1, MK1, rfl, K1, HF⟩
theorem twd_5 {e : Nat} {M M' : Mem} {v : Option Value} {x y r : Int32} (hS : SQ M) (hLd : fR M 0 2 = 8) (H : Ev none e 129 5 [some (.ref 0), some (.int x), some (.int y)] [.int r] M v M' 0 0) : (r = 0 ∧ v = some (.int 0) ∧ M' = M) ∨ (¬ (r = 0) ∧ (∃ e1 v1 M1, e = e1 + 1 ∧ Ev none e1 128 0 [some (.ref 0), some (.int y)] [] M v1 M1 0 0 ∧ Ev none e 129 13 [some (.ref 0), some (.int x), some (.int y)] (v1.toList ++ []) M1 v M' 0 0)) := by
  have H : Ev none e 129 (if r = 0 then 25 else 8) [some (.ref 0), some (.int x), some (.int y)] [] M v M' 0 0 := Ev.back 1 (fun n => rfl) H
  by_cases h1 : r = 0
  · rw [if_pos h1] at H
    have H : Ev none e 129 26 [some (.ref 0), some (.int x), some (.int y)] [.int 0] M v M' 0 0 := Ev.back 1 (fun n => rfl) H
    obtain ⟨z1, z2⟩ := Ev.retz rfl rfl H
    exact Or.inl ⟨h1, z1, z2⟩
  · rw [if_neg h1] at H
    have H : Ev none e 129 10 [some (.ref 0), some (.int x), some (.int y)] [.int y, .ref 0] M v M' 0 0 := Ev.back 2 (fun n => rfl) H
    obtain ⟨e1, rfl⟩ := Ev.dpos rfl rfl H
    obtain ⟨vK2, MK2, K2, H⟩ := Ev.callb (fun n_ => gs_7 rfl rfl (show gCal (.invokevirtual 302) 10 (.int y :: .ref 0 :: []) M = some (.inr (128, [some (.ref 0), some (.int y)], [])) from by show @cond (Option ((List Value × Mem) ⊕ (Nat × Lo × List Value))) (true && gRecv M (.ref 0) 10 && gRoom [] && true) (some (.inr (128, [some (.ref 0), some (.int y)], []))) none = _; rw [recv_s hS.1 qa_0 qo_0]; rfl)) H
    have K2 : Ev none e1 128 0 [some (.ref 0), some (.int y)] [] M vK2 MK2 0 0 := K2
    have HF := H
    exact Or.inr (⟨h1, ⟨e1, vK2, MK2, rfl, K2, HF⟩⟩)
theorem twd_13 {e : Nat} {M M' : Mem} {v : Option Value} {x y r : Int32} (hS : SQ M) (hLd : fR M 0 2 = 8) (H : Ev none e 129 13 [some (.ref 0), some (.int x), some (.int y)] [.int r] M v M' 0 0) : (r = 0 ∧ v = some (.int 0) ∧ M' = M) ∨ (¬ (r = 0) ∧ x = y ∧ v = some (.int 0) ∧ M' = M) ∨ (¬ (r = 0) ∧ ¬ (x = y) ∧ v = some (.int 1) ∧ M' = M) := by
  have H : Ev none e 129 (if r = 0 then 25 else 16) [some (.ref 0), some (.int x), some (.int y)] [] M v M' 0 0 := Ev.back 1 (fun n => rfl) H
  by_cases h1 : r = 0
  · rw [if_pos h1] at H
    have H : Ev none e 129 26 [some (.ref 0), some (.int x), some (.int y)] [.int 0] M v M' 0 0 := Ev.back 1 (fun n => rfl) H
    obtain ⟨z1, z2⟩ := Ev.retz rfl rfl H
    exact Or.inl ⟨h1, z1, z2⟩
  · rw [if_neg h1] at H
    have H : Ev none e 129 (if x = y then 25 else 21) [some (.ref 0), some (.int x), some (.int y)] [] M v M' 0 0 := Ev.back 3 (fun n => rfl) H
    by_cases h2 : x = y
    · rw [if_pos h2] at H
      have H : Ev none e 129 26 [some (.ref 0), some (.int x), some (.int y)] [.int 0] M v M' 0 0 := Ev.back 1 (fun n => rfl) H
      obtain ⟨z1, z2⟩ := Ev.retz rfl rfl H
      exact Or.inr (Or.inl ⟨h1, h2, z1, z2⟩)
    · rw [if_neg h2] at H
      have H : Ev none e 129 26 [some (.ref 0), some (.int x), some (.int y)] [.int 1] M v M' 0 0 := Ev.back 2 (fun n => rfl) H
      obtain ⟨z1, z2⟩ := Ev.retz rfl rfl H
      exact Or.inr (Or.inr (⟨h1, h2, z1, z2⟩))
theorem isw_0 {e : Nat} {M M' : Mem} {v : Option Value} {k : Int32} (hS : SQ M) (hLd : fR M 0 2 = 8) (H : Ev none e 130 0 [some (.ref 0), some (.int k)] [] M v M' 0 0) : ((G_126 M k 0 ((zI M 8 13) - 1)) = 0 ∧ v = some (.int 0) ∧ M' = M) ∨ (¬ ((G_126 M k 0 ((zI M 8 13) - 1)) = 0) ∧ (zI M (oI M (8 + 10) k) 5) = 0 ∧ (0 ≤ k.toInt ∧ k.toInt < 24) ∧ v = some (.int 0) ∧ M' = M) ∨ (¬ ((G_126 M k 0 ((zI M 8 13) - 1)) = 0) ∧ ¬ ((zI M (oI M (8 + 10) k) 5) = 0) ∧ (0 ≤ k.toInt ∧ k.toInt < 24) ∧ v = some (.int 1) ∧ M' = M) := by
  have H : Ev none e 130 3 [some (.ref 0), some (.int k)] [.ref 0, .int 0, .int k] M v M' 0 0 := Ev.back 3 (fun n => rfl) H
  have H : Ev none e 130 6 [some (.ref 0), some (.int k)] [.ref (fR M 0 2), .int 0, .int k] M v M' 0 0 := Ev.back 1 (gs_3 rfl rfl (gf_r hS.1 qa_0 qr_0_2 rfl)) H
  rw [hLd] at H
  have H : Ev none e 130 9 [some (.ref 0), some (.int k)] [.int (zI M 8 13), .int 0, .int k] M v M' 0 0 := Ev.back 1 (gs_3 rfl rfl (gf_i hS.1 qa_8 qi_8_13 rfl)) H
  have H : Ev none e 130 11 [some (.ref 0), some (.int k)] [.int ((zI M 8 13) - 1), .int 0, .int k] M v M' 0 0 := Ev.back 2 (fun n => rfl) H
  obtain ⟨e1, rfl⟩ := Ev.dpos rfl rfl H
  obtain ⟨vK1, MK1, K1, H⟩ := Ev.callb (fun n => rfl) H
  obtain ⟨pK1, qK1⟩ := g_126 hS K1
  rw [pK1, qK1] at H
  have H : Ev none (e1 + 1) 130 14 [some (.ref 0), some (.int k)] [.int (G_126 M k 0 ((zI M 8 13) - 1))] M v M' 0 0 := H
  have H : Ev none (e1 + 1) 130 (if (G_126 M k 0 ((zI M 8 13) - 1)) = 0 then 36 else 17) [some (.ref 0), some (.int k)] [] M v M' 0 0 := Ev.back 1 (fun n => rfl) H
  by_cases h2 : (G_126 M k 0 ((zI M 8 13) - 1)) = 0
  · rw [if_pos h2] at H
    have H : Ev none (e1 + 1) 130 37 [some (.ref 0), some (.int k)] [.int 0] M v M' 0 0 := Ev.back 1 (fun n => rfl) H
    obtain ⟨z1, z2⟩ := Ev.retz rfl rfl H
    exact Or.inl ⟨h2, z1, z2⟩
  · rw [if_neg h2] at H
    have H : Ev none (e1 + 1) 130 18 [some (.ref 0), some (.int k)] [.ref 0] M v M' 0 0 := Ev.back 1 (fun n => rfl) H
    have H : Ev none (e1 + 1) 130 21 [some (.ref 0), some (.int k)] [.ref (fR M 0 2)] M v M' 0 0 := Ev.back 1 (gs_3 rfl rfl (gf_r hS.1 qa_0 qr_0_2 rfl)) H
    rw [hLd] at H
    have H : Ev none (e1 + 1) 130 24 [some (.ref 0), some (.int k)] [.ref (8 + 10)] M v M' 0 0 := Ev.back 1 (gs_3 rfl rfl (gf_x hS.1 qa_8 qo_8 (fx_l12 hS qa_8) rfl)) H
    have H : Ev none (e1 + 1) 130 25 [some (.ref 0), some (.int k)] [.int k, .ref (8 + 10)] M v M' 0 0 := Ev.back 1 (fun n => rfl) H
    obtain ⟨b3, H⟩ := Ev.aal rfl rfl hS.1 (fx_h12 qa_8) qz_18 H
    have H : Ev none (e1 + 1) 130 26 [some (.ref 0), some (.int k)] [.ref (oI M (8 + 10) k)] M v M' 0 0 := H
    have H : Ev none (e1 + 1) 130 29 [some (.ref 0), some (.int k)] [.int (zI M (oI M (8 + 10) k) 5)] M v M' 0 0 := Ev.back 1 (gs_3 rfl rfl (gf_i hS.1 b3.2 qi_20_5 rfl)) H
    have H : Ev none (e1 + 1) 130 (if (zI M (oI M (8 + 10) k) 5) = 0 then 36 else 32) [some (.ref 0), some (.int k)] [] M v M' 0 0 := Ev.back 1 (fun n => rfl) H
    by_cases h4 : (zI M (oI M (8 + 10) k) 5) = 0
    · rw [if_pos h4] at H
      have H : Ev none (e1 + 1) 130 37 [some (.ref 0), some (.int k)] [.int 0] M v M' 0 0 := Ev.back 1 (fun n => rfl) H
      obtain ⟨z1, z2⟩ := Ev.retz rfl rfl H
      exact Or.inr (Or.inl ⟨h2, h4, b3.1, z1, z2⟩)
    · rw [if_neg h4] at H
      have H : Ev none (e1 + 1) 130 37 [some (.ref 0), some (.int k)] [.int 1] M v M' 0 0 := Ev.back 2 (fun n => rfl) H
      obtain ⟨z1, z2⟩ := Ev.retz rfl rfl H
      exact Or.inr (Or.inr (⟨h2, h4, b3.1, z1, z2⟩))
theorem dor_0 {e : Nat} {M M' : Mem} {v : Option Value} {c : Int32} (hS : SQ M) (hLd : fR M 0 2 = 8) (H : Ev none e 84 0 [some (.ref 0), some (.int c)] [] M v M' 0 0) : ((zI M 8 11) = 9 ∧ v = some (.int (-1)) ∧ M' = M) ∨ (¬ ((zI M 8 11) = 9) ∧ (∃ e1 v1 M1, e = e1 + 1 ∧ Ev none e1 127 0 [some (.ref 0), some (.int c)] [] M v1 M1 0 0 ∧ Ev none e 84 17 [some (.ref 0), some (.int c)] (v1.toList ++ []) M1 v M' 0 0)) := by
  have H : Ev none e 84 1 [some (.ref 0), some (.int c)] [.ref 0] M v M' 0 0 := Ev.back 1 (fun n => rfl) H
  have H : Ev none e 84 4 [some (.ref 0), some (.int c)] [.ref (fR M 0 2)] M v M' 0 0 := Ev.back 1 (gs_3 rfl rfl (gf_r hS.1 qa_0 qr_0_2 rfl)) H
  rw [hLd] at H
  have H : Ev none e 84 7 [some (.ref 0), some (.int c)] [.int (zI M 8 11)] M v M' 0 0 := Ev.back 1 (gs_3 rfl rfl (gf_i hS.1 qa_8 qi_8_11 rfl)) H
  have H : Ev none e 84 (if (zI M 8 11) = 9 then 42 else 12) [some (.ref 0), some (.int c)] [] M v M' 0 0 := Ev.back 2 (fun n => rfl) H
  by_cases h1 : (zI M 8 11) = 9
  · rw [if_pos h1] at H
    have H : Ev none e 84 43 [some (.ref 0), some (.int c)] [.int (-1)] M v M' 0 0 := Ev.back 1 (fun n => rfl) H
    obtain ⟨z1, z2⟩ := Ev.retz rfl rfl H
    exact Or.inl ⟨h1, z1, z2⟩
  · rw [if_neg h1] at H
    have H : Ev none e 84 14 [some (.ref 0), some (.int c)] [.int c, .ref 0] M v M' 0 0 := Ev.back 2 (fun n => rfl) H
    obtain ⟨e1, rfl⟩ := Ev.dpos rfl rfl H
    obtain ⟨vK2, MK2, K2, H⟩ := Ev.callb (fun n_ => gs_7 rfl rfl (show gCal (.invokevirtual 113) 10 (.int c :: .ref 0 :: []) M = some (.inr (127, [some (.ref 0), some (.int c)], [])) from by show @cond (Option ((List Value × Mem) ⊕ (Nat × Lo × List Value))) (true && gRecv M (.ref 0) 10 && gRoom [] && true) (some (.inr (127, [some (.ref 0), some (.int c)], []))) none = _; rw [recv_s hS.1 qa_0 qo_0]; rfl)) H
    have K2 : Ev none e1 127 0 [some (.ref 0), some (.int c)] [] M vK2 MK2 0 0 := K2
    have HF := H
    exact Or.inr (⟨h1, ⟨e1, vK2, MK2, rfl, K2, HF⟩⟩)
theorem dor_17 {e : Nat} {M M' : Mem} {v : Option Value} {c r : Int32} (hS : SQ M) (hLd : fR M 0 2 = 8) (H : Ev none e 84 17 [some (.ref 0), some (.int c)] [.int r] M v M' 0 0) : (r = 0 ∧ v = some (.int (-1)) ∧ M' = M) ∨ (¬ (r = 0) ∧ (G_7 M 8 c) = 0 ∧ v = some (.int (-1)) ∧ M' = M) ∨ (¬ (r = 0) ∧ ¬ ((G_7 M 8 c) = 0) ∧ (∃ e1 v1 M1, e = e1 + 1 ∧ Ev none e1 9 0 [some (.ref 8), some (.int c), none] [] M v1 M1 0 0 ∧ Ev none e 84 39 [some (.ref 0), some (.int c)] (v1.toList ++ []) M1 v M' 0 0)) := by
  have H : Ev none e 84 (if r = 0 then 42 else 20) [some (.ref 0), some (.int c)] [] M v M' 0 0 := Ev.back 1 (fun n => rfl) H
  by_cases h1 : r = 0
  · rw [if_pos h1] at H
    have H : Ev none e 84 43 [some (.ref 0), some (.int c)] [.int (-1)] M v M' 0 0 := Ev.back 1 (fun n => rfl) H
    obtain ⟨z1, z2⟩ := Ev.retz rfl rfl H
    exact Or.inl ⟨h1, z1, z2⟩
  · rw [if_neg h1] at H
    have H : Ev none e 84 21 [some (.ref 0), some (.int c)] [.ref 0] M v M' 0 0 := Ev.back 1 (fun n => rfl) H
    have H : Ev none e 84 24 [some (.ref 0), some (.int c)] [.ref (fR M 0 2)] M v M' 0 0 := Ev.back 1 (gs_3 rfl rfl (gf_r hS.1 qa_0 qr_0_2 rfl)) H
    rw [hLd] at H
    have H : Ev none e 84 25 [some (.ref 0), some (.int c)] [.int c, .ref 8] M v M' 0 0 := Ev.back 1 (fun n => rfl) H
    obtain ⟨e1, rfl⟩ := Ev.dpos rfl rfl H
    obtain ⟨vK2, MK2, K2, H⟩ := Ev.callb (fun n_ => gs_7 rfl rfl (show gCal (.invokevirtual 117) 10 (.int c :: .ref 8 :: []) M = some (.inr (7, [some (.ref 8), some (.int c)], [])) from by show @cond (Option ((List Value × Mem) ⊕ (Nat × Lo × List Value))) (true && gRecv M (.ref 8) 1 && gRoom [] && true) (some (.inr (7, [some (.ref 8), some (.int c)], []))) none = _; rw [recv_s hS.1 qa_8 qo_8]; rfl)) H
    obtain ⟨pK2, qK2⟩ := g_7 hS qa_8 K2
    rw [pK2, qK2] at H
    have H : Ev none (e1 + 1) 84 28 [some (.ref 0), some (.int c)] [.int (G_7 M 8 c)] M v M' 0 0 := H
    have H : Ev none (e1 + 1) 84 (if (G_7 M 8 c) = 0 then 42 else 31) [some (.ref 0), some (.int c)] [] M v M' 0 0 := Ev.back 1 (fun n => rfl) H
    by_cases h3 : (G_7 M 8 c) = 0
    · rw [if_pos h3] at H
      have H : Ev none (e1 + 1) 84 43 [some (.ref 0), some (.int c)] [.int (-1)] M v M' 0 0 := Ev.back 1 (fun n => rfl) H
      obtain ⟨z1, z2⟩ := Ev.retz rfl rfl H
      exact Or.inr (Or.inl ⟨h1, h3, z1, z2⟩)
    · rw [if_neg h3] at H
      have H : Ev none (e1 + 1) 84 32 [some (.ref 0), some (.int c)] [.ref 0] M v M' 0 0 := Ev.back 1 (fun n => rfl) H
      have H : Ev none (e1 + 1) 84 35 [some (.ref 0), some (.int c)] [.ref (fR M 0 2)] M v M' 0 0 := Ev.back 1 (gs_3 rfl rfl (gf_r hS.1 qa_0 qr_0_2 rfl)) H
      rw [hLd] at H
      have H : Ev none (e1 + 1) 84 36 [some (.ref 0), some (.int c)] [.int c, .ref 8] M v M' 0 0 := Ev.back 1 (fun n => rfl) H
      obtain ⟨vK4, MK4, K4, H⟩ := Ev.callb (fun n_ => gs_7 rfl rfl (show gCal (.invokevirtual 120) 10 (.int c :: .ref 8 :: []) M = some (.inr (9, [some (.ref 8), some (.int c), none], [])) from by show @cond (Option ((List Value × Mem) ⊕ (Nat × Lo × List Value))) (true && gRecv M (.ref 8) 1 && gRoom [] && true) (some (.inr (9, [some (.ref 8), some (.int c), none], []))) none = _; rw [recv_s hS.1 qa_8 qo_8]; rfl)) H
      have K4 : Ev none e1 9 0 [some (.ref 8), some (.int c), none] [] M vK4 MK4 0 0 := K4
      have HF := H
      exact Or.inr (Or.inr (⟨h1, h3, ⟨e1, vK4, MK4, rfl, K4, HF⟩⟩))
theorem dor_39 {e : Nat} {M M' : Mem} {v : Option Value} {c r : Int32} (hS : SQ M) (hLd : fR M 0 2 = 8) (H : Ev none e 84 39 [some (.ref 0), some (.int c)] [.int r] M v M' 0 0) : (r = 0 ∧ (0 ≤ (zI M 8 11).toInt ∧ (zI M 8 11).toInt < 9) ∧ v = some (.int (zI M 8 11)) ∧ M' = (wF (wI M (8 + 9) ((zI M 8 11).toNatClampNeg) c) 8 11 ((zI M 8 11) + 1))) ∨ (¬ (r = 0) ∧ v = some (.int (-1)) ∧ M' = M) := by
  have H : Ev none e 84 (if r = 0 then 44 else 42) [some (.ref 0), some (.int c)] [] M v M' 0 0 := Ev.back 1 (fun n => rfl) H
  by_cases h1 : r = 0
  · rw [if_pos h1] at H
    have H : Ev none e 84 45 [some (.ref 0), some (.int c)] [.ref 0] M v M' 0 0 := Ev.back 1 (fun n => rfl) H
    have H : Ev none e 84 48 [some (.ref 0), some (.int c)] [.ref (fR M 0 2)] M v M' 0 0 := Ev.back 1 (gs_3 rfl rfl (gf_r hS.1 qa_0 qr_0_2 rfl)) H
    rw [hLd] at H
    have H : Ev none e 84 51 [some (.ref 0), some (.int c)] [.ref (8 + 9)] M v M' 0 0 := Ev.back 1 (gs_3 rfl rfl (gf_x hS.1 qa_8 qo_8 (fx_l10 hS qa_8) rfl)) H
    have H : Ev none e 84 52 [some (.ref 0), some (.int c)] [.ref 0, .ref (8 + 9)] M v M' 0 0 := Ev.back 1 (fun n => rfl) H
    have H : Ev none e 84 55 [some (.ref 0), some (.int c)] [.ref (fR M 0 2), .ref (8 + 9)] M v M' 0 0 := Ev.back 1 (gs_3 rfl rfl (gf_r hS.1 qa_0 qr_0_2 rfl)) H
    rw [hLd] at H
    have H : Ev none e 84 58 [some (.ref 0), some (.int c)] [.int (zI M 8 11), .ref (8 + 9)] M v M' 0 0 := Ev.back 1 (gs_3 rfl rfl (gf_i hS.1 qa_8 qi_8_11 rfl)) H
    have H : Ev none e 84 59 [some (.ref 0), some (.int c)] [.int c, .int (zI M 8 11), .ref (8 + 9)] M v M' 0 0 := Ev.back 1 (fun n => rfl) H
    obtain ⟨b2, H⟩ := Ev.ias rfl rfl hS.1 (fx_h10 qa_8) qw_17 H
    obtain ⟨N3, eN3⟩ : ∃ N, N = (wI M (8 + 9) ((zI M 8 11).toNatClampNeg) c) := ⟨_, rfl⟩
    have hN3 : SQ N3 := by rw [eN3]; exact hS.ki
    have H : Ev none e 84 60 [some (.ref 0), some (.int c)] [] N3 v M' 0 0 := by rw [eN3]; exact H
    have H : Ev none e 84 61 [some (.ref 0), some (.int c)] [.ref 0] N3 v M' 0 0 := Ev.back 1 (fun n => rfl) H
    have H : Ev none e 84 64 [some (.ref 0), some (.int c)] [.ref (fR N3 0 2)] N3 v M' 0 0 := Ev.back 1 (gs_3 rfl rfl (gf_r hN3.1 qa_0 qr_0_2 rfl)) H
    rw [show fR N3 0 2 = fR M 0 2 from by rw [eN3]; exact fR_wI] at H
    rw [hLd] at H
    have H : Ev none e 84 65 [some (.ref 0), some (.int c)] [.ref 8, .ref 8] N3 v M' 0 0 := Ev.back 1 (fun n => rfl) H
    have H : Ev none e 84 68 [some (.ref 0), some (.int c)] [.int (zI N3 8 11), .ref 8] N3 v M' 0 0 := Ev.back 1 (gs_3 rfl rfl (gf_i hN3.1 qa_8 qi_8_11 rfl)) H
    rw [show zI N3 8 11 = zI M 8 11 from by rw [eN3]; exact fI_wI] at H
    have H : Ev none e 84 71 [some (.ref 0), some (.int c)] [.int ((zI M 8 11) + 1), .ref 8, .int (zI M 8 11)] N3 v M' 0 0 := Ev.back 3 (fun n => rfl) H
    obtain ⟨N5, eN5⟩ : ∃ N, N = (wF N3 8 11 ((zI M 8 11) + 1)) := ⟨_, rfl⟩
    have hN5 : SQ N5 := by rw [eN5]; exact hN3.kf
    have H : Ev none e 84 74 [some (.ref 0), some (.int c)] [.int (zI M 8 11)] N5 v M' 0 0 := by rw [eN5]; exact Ev.pfi rfl rfl rfl hN3.1 qa_8 qi_8_11 H
    obtain ⟨z1, z2⟩ := Ev.retz rfl rfl H
    subst eN3 eN5
    exact Or.inl ⟨h1, b2, z1, z2⟩
  · rw [if_neg h1] at H
    have H : Ev none e 84 43 [some (.ref 0), some (.int c)] [.int (-1)] M v M' 0 0 := Ev.back 1 (fun n => rfl) H
    obtain ⟨z1, z2⟩ := Ev.retz rfl rfl H
    exact Or.inr (⟨h1, z1, z2⟩)
theorem wis_0 {e : Nat} {M M' : Mem} {v : Option Value} {a b h ev fi : Int32} (hS : SQ M) (hLd : fR M 0 2 = 8) (H : Ev none e 89 0 [some (.ref 0), some (.int a), some (.int b), some (.int h), some (.int ev), some (.int fi), none] [] M v M' 0 0) : ((zI M 8 13) = 24 ∧ v = some (.int (-1)) ∧ M' = M) ∨ (¬ ((zI M 8 13) = 24) ∧ (∃ e1 v1 M1, e = e1 + 1 ∧ Ev none e1 129 0 [some (.ref 0), some (.int a), some (.int b)] [] M v1 M1 0 0 ∧ Ev none e 89 18 [some (.ref 0), some (.int a), some (.int b), some (.int h), some (.int ev), some (.int fi), none] (v1.toList ++ []) M1 v M' 0 0)) := by
  have H : Ev none e 89 1 [some (.ref 0), some (.int a), some (.int b), some (.int h), some (.int ev), some (.int fi), none] [.ref 0] M v M' 0 0 := Ev.back 1 (fun n => rfl) H
  have H : Ev none e 89 4 [some (.ref 0), some (.int a), some (.int b), some (.int h), some (.int ev), some (.int fi), none] [.ref (fR M 0 2)] M v M' 0 0 := Ev.back 1 (gs_3 rfl rfl (gf_r hS.1 qa_0 qr_0_2 rfl)) H
  rw [hLd] at H
  have H : Ev none e 89 7 [some (.ref 0), some (.int a), some (.int b), some (.int h), some (.int ev), some (.int fi), none] [.int (zI M 8 13)] M v M' 0 0 := Ev.back 1 (gs_3 rfl rfl (gf_i hS.1 qa_8 qi_8_13 rfl)) H
  have H : Ev none e 89 (if (zI M 8 13) = 24 then 30 else 12) [some (.ref 0), some (.int a), some (.int b), some (.int h), some (.int ev), some (.int fi), none] [] M v M' 0 0 := Ev.back 2 (fun n => rfl) H
  by_cases h1 : (zI M 8 13) = 24
  · rw [if_pos h1] at H
    have H : Ev none e 89 31 [some (.ref 0), some (.int a), some (.int b), some (.int h), some (.int ev), some (.int fi), none] [.int (-1)] M v M' 0 0 := Ev.back 1 (fun n => rfl) H
    obtain ⟨z1, z2⟩ := Ev.retz rfl rfl H
    exact Or.inl ⟨h1, z1, z2⟩
  · rw [if_neg h1] at H
    have H : Ev none e 89 15 [some (.ref 0), some (.int a), some (.int b), some (.int h), some (.int ev), some (.int fi), none] [.int b, .int a, .ref 0] M v M' 0 0 := Ev.back 3 (fun n => rfl) H
    obtain ⟨e1, rfl⟩ := Ev.dpos rfl rfl H
    obtain ⟨vK2, MK2, K2, H⟩ := Ev.callb (fun n_ => gs_7 rfl rfl (show gCal (.invokevirtual 162) 10 (.int b :: .int a :: .ref 0 :: []) M = some (.inr (129, [some (.ref 0), some (.int a), some (.int b)], [])) from by show @cond (Option ((List Value × Mem) ⊕ (Nat × Lo × List Value))) (true && gRecv M (.ref 0) 10 && gRoom [] && true) (some (.inr (129, [some (.ref 0), some (.int a), some (.int b)], []))) none = _; rw [recv_s hS.1 qa_0 qo_0]; rfl)) H
    have K2 : Ev none e1 129 0 [some (.ref 0), some (.int a), some (.int b)] [] M vK2 MK2 0 0 := K2
    have HF := H
    exact Or.inr (⟨h1, ⟨e1, vK2, MK2, rfl, K2, HF⟩⟩)
theorem wis_18 {e : Nat} {M M' : Mem} {v : Option Value} {a b h ev fi r : Int32} (hS : SQ M) (hLd : fR M 0 2 = 8) (H : Ev none e 89 18 [some (.ref 0), some (.int a), some (.int b), some (.int h), some (.int ev), some (.int fi), none] [.int r] M v M' 0 0) : (r = 0 ∧ v = some (.int (-1)) ∧ M' = M) ∨ (¬ (r = 0) ∧ (G_126 M h 0 5) = 0 ∧ v = some (.int (-1)) ∧ M' = M) ∨ (¬ (r = 0) ∧ ¬ ((G_126 M h 0 5) = 0) ∧ (G_126 M ev 1 200) = 0 ∧ v = some (.int (-1)) ∧ M' = M) ∨ (¬ (r = 0) ∧ ¬ ((G_126 M h 0 5) = 0) ∧ ¬ ((G_126 M ev 1 200) = 0) ∧ (G_126 M fi 0 60000) = 0 ∧ v = some (.int (-1)) ∧ M' = M) ∨ (¬ (r = 0) ∧ ¬ ((G_126 M h 0 5) = 0) ∧ ¬ ((G_126 M ev 1 200) = 0) ∧ ¬ ((G_126 M fi 0 60000) = 0) ∧ (0 ≤ (zI M 8 13).toInt ∧ (zI M 8 13).toInt < 24) ∧ Ev none e 89 74 [some (.ref 0), some (.int a), some (.int b), some (.int h), some (.int ev), some (.int fi), some (.ref (oI M (8 + 10) (zI M 8 13)))] [] M v M' 0 0) := by
  have H : Ev none e 89 (if r = 0 then 30 else 21) [some (.ref 0), some (.int a), some (.int b), some (.int h), some (.int ev), some (.int fi), none] [] M v M' 0 0 := Ev.back 1 (fun n => rfl) H
  by_cases h1 : r = 0
  · rw [if_pos h1] at H
    have H : Ev none e 89 31 [some (.ref 0), some (.int a), some (.int b), some (.int h), some (.int ev), some (.int fi), none] [.int (-1)] M v M' 0 0 := Ev.back 1 (fun n => rfl) H
    obtain ⟨z1, z2⟩ := Ev.retz rfl rfl H
    exact Or.inl ⟨h1, z1, z2⟩
  · rw [if_neg h1] at H
    have H : Ev none e 89 24 [some (.ref 0), some (.int a), some (.int b), some (.int h), some (.int ev), some (.int fi), none] [.int 5, .int 0, .int h] M v M' 0 0 := Ev.back 3 (fun n => rfl) H
    obtain ⟨e1, rfl⟩ := Ev.dpos rfl rfl H
    obtain ⟨vK2, MK2, K2, H⟩ := Ev.callb (fun n => rfl) H
    obtain ⟨pK2, qK2⟩ := g_126 hS K2
    rw [pK2, qK2] at H
    have H : Ev none (e1 + 1) 89 27 [some (.ref 0), some (.int a), some (.int b), some (.int h), some (.int ev), some (.int fi), none] [.int (G_126 M h 0 5)] M v M' 0 0 := H
    have H : Ev none (e1 + 1) 89 (if (G_126 M h 0 5) = 0 then 30 else 32) [some (.ref 0), some (.int a), some (.int b), some (.int h), some (.int ev), some (.int fi), none] [] M v M' 0 0 := Ev.back 1 (fun n => rfl) H
    by_cases h3 : (G_126 M h 0 5) = 0
    · rw [if_pos h3] at H
      have H : Ev none (e1 + 1) 89 31 [some (.ref 0), some (.int a), some (.int b), some (.int h), some (.int ev), some (.int fi), none] [.int (-1)] M v M' 0 0 := Ev.back 1 (fun n => rfl) H
      obtain ⟨z1, z2⟩ := Ev.retz rfl rfl H
      exact Or.inr (Or.inl ⟨h1, h3, z1, z2⟩)
    · rw [if_neg h3] at H
      have H : Ev none (e1 + 1) 89 38 [some (.ref 0), some (.int a), some (.int b), some (.int h), some (.int ev), some (.int fi), none] [.int 200, .int 1, .int ev] M v M' 0 0 := Ev.back 3 (fun n => rfl) H
      obtain ⟨vK4, MK4, K4, H⟩ := Ev.callb (fun n => rfl) H
      obtain ⟨pK4, qK4⟩ := g_126 hS K4
      rw [pK4, qK4] at H
      have H : Ev none (e1 + 1) 89 41 [some (.ref 0), some (.int a), some (.int b), some (.int h), some (.int ev), some (.int fi), none] [.int (G_126 M ev 1 200)] M v M' 0 0 := H
      have H : Ev none (e1 + 1) 89 (if (G_126 M ev 1 200) = 0 then 55 else 44) [some (.ref 0), some (.int a), some (.int b), some (.int h), some (.int ev), some (.int fi), none] [] M v M' 0 0 := Ev.back 1 (fun n => rfl) H
      by_cases h5 : (G_126 M ev 1 200) = 0
      · rw [if_pos h5] at H
        have H : Ev none (e1 + 1) 89 56 [some (.ref 0), some (.int a), some (.int b), some (.int h), some (.int ev), some (.int fi), none] [.int (-1)] M v M' 0 0 := Ev.back 1 (fun n => rfl) H
        obtain ⟨z1, z2⟩ := Ev.retz rfl rfl H
        exact Or.inr (Or.inr (Or.inl ⟨h1, h3, h5, z1, z2⟩))
      · rw [if_neg h5] at H
        have H : Ev none (e1 + 1) 89 49 [some (.ref 0), some (.int a), some (.int b), some (.int h), some (.int ev), some (.int fi), none] [.int 60000, .int 0, .int fi] M v M' 0 0 := Ev.back 3 (fun n => rfl) H
        obtain ⟨vK6, MK6, K6, H⟩ := Ev.callb (fun n => rfl) H
        obtain ⟨pK6, qK6⟩ := g_126 hS K6
        rw [pK6, qK6] at H
        have H : Ev none (e1 + 1) 89 52 [some (.ref 0), some (.int a), some (.int b), some (.int h), some (.int ev), some (.int fi), none] [.int (G_126 M fi 0 60000)] M v M' 0 0 := H
        have H : Ev none (e1 + 1) 89 (if (G_126 M fi 0 60000) = 0 then 55 else 57) [some (.ref 0), some (.int a), some (.int b), some (.int h), some (.int ev), some (.int fi), none] [] M v M' 0 0 := Ev.back 1 (fun n => rfl) H
        by_cases h7 : (G_126 M fi 0 60000) = 0
        · rw [if_pos h7] at H
          have H : Ev none (e1 + 1) 89 56 [some (.ref 0), some (.int a), some (.int b), some (.int h), some (.int ev), some (.int fi), none] [.int (-1)] M v M' 0 0 := Ev.back 1 (fun n => rfl) H
          obtain ⟨z1, z2⟩ := Ev.retz rfl rfl H
          exact Or.inr (Or.inr (Or.inr (Or.inl ⟨h1, h3, h5, h7, z1, z2⟩)))
        · rw [if_neg h7] at H
          have H : Ev none (e1 + 1) 89 58 [some (.ref 0), some (.int a), some (.int b), some (.int h), some (.int ev), some (.int fi), none] [.ref 0] M v M' 0 0 := Ev.back 1 (fun n => rfl) H
          have H : Ev none (e1 + 1) 89 61 [some (.ref 0), some (.int a), some (.int b), some (.int h), some (.int ev), some (.int fi), none] [.ref (fR M 0 2)] M v M' 0 0 := Ev.back 1 (gs_3 rfl rfl (gf_r hS.1 qa_0 qr_0_2 rfl)) H
          rw [hLd] at H
          have H : Ev none (e1 + 1) 89 64 [some (.ref 0), some (.int a), some (.int b), some (.int h), some (.int ev), some (.int fi), none] [.ref (8 + 10)] M v M' 0 0 := Ev.back 1 (gs_3 rfl rfl (gf_x hS.1 qa_8 qo_8 (fx_l12 hS qa_8) rfl)) H
          have H : Ev none (e1 + 1) 89 65 [some (.ref 0), some (.int a), some (.int b), some (.int h), some (.int ev), some (.int fi), none] [.ref 0, .ref (8 + 10)] M v M' 0 0 := Ev.back 1 (fun n => rfl) H
          have H : Ev none (e1 + 1) 89 68 [some (.ref 0), some (.int a), some (.int b), some (.int h), some (.int ev), some (.int fi), none] [.ref (fR M 0 2), .ref (8 + 10)] M v M' 0 0 := Ev.back 1 (gs_3 rfl rfl (gf_r hS.1 qa_0 qr_0_2 rfl)) H
          rw [hLd] at H
          have H : Ev none (e1 + 1) 89 71 [some (.ref 0), some (.int a), some (.int b), some (.int h), some (.int ev), some (.int fi), none] [.int (zI M 8 13), .ref (8 + 10)] M v M' 0 0 := Ev.back 1 (gs_3 rfl rfl (gf_i hS.1 qa_8 qi_8_13 rfl)) H
          obtain ⟨b8, H⟩ := Ev.aal rfl rfl hS.1 (fx_h12 qa_8) qz_18 H
          have H : Ev none (e1 + 1) 89 72 [some (.ref 0), some (.int a), some (.int b), some (.int h), some (.int ev), some (.int fi), none] [.ref (oI M (8 + 10) (zI M 8 13))] M v M' 0 0 := H
          have H : Ev none (e1 + 1) 89 74 [some (.ref 0), some (.int a), some (.int b), some (.int h), some (.int ev), some (.int fi), some (.ref (oI M (8 + 10) (zI M 8 13)))] [] M v M' 0 0 := Ev.back 1 (fun n => rfl) H
          have HF := H
          exact Or.inr (Or.inr (Or.inr (Or.inr (⟨h1, h3, h5, h7, b8.1, HF⟩))))
theorem wis_74 {e : Nat} {M M' : Mem} {v : Option Value} {a b h ev fi : Int32} {x : Nat} (hS : SQ M) (a_x : gNth sT x = some 20) (hLd : fR M 0 2 = 8) (H : Ev none e 89 74 [some (.ref 0), some (.int a), some (.int b), some (.int h), some (.int ev), some (.int fi), some (.ref x)] [] M v M' 0 0) : v = some (.int (zI M 8 13)) ∧ M' = (wF (wF (wF (wF (wF (wF (wF M x 0 a) x 1 b) x 2 h) x 3 ev) x 4 fi) x 5 1) 8 13 ((zI M 8 13) + 1)) := by
  have H : Ev none e 89 77 [some (.ref 0), some (.int a), some (.int b), some (.int h), some (.int ev), some (.int fi), some (.ref x)] [.int a, .ref x] M v M' 0 0 := Ev.back 2 (fun n => rfl) H
  obtain ⟨N2, eN2⟩ : ∃ N, N = (wF M x 0 a) := ⟨_, rfl⟩
  have hN2 : SQ N2 := by rw [eN2]; exact hS.kf
  have H : Ev none e 89 80 [some (.ref 0), some (.int a), some (.int b), some (.int h), some (.int ev), some (.int fi), some (.ref x)] [] N2 v M' 0 0 := by rw [eN2]; exact Ev.pfi rfl rfl rfl hS.1 a_x qi_20_0 H
  have H : Ev none e 89 83 [some (.ref 0), some (.int a), some (.int b), some (.int h), some (.int ev), some (.int fi), some (.ref x)] [.int b, .ref x] N2 v M' 0 0 := Ev.back 2 (fun n => rfl) H
  obtain ⟨N4, eN4⟩ : ∃ N, N = (wF N2 x 1 b) := ⟨_, rfl⟩
  have hN4 : SQ N4 := by rw [eN4]; exact hN2.kf
  have H : Ev none e 89 86 [some (.ref 0), some (.int a), some (.int b), some (.int h), some (.int ev), some (.int fi), some (.ref x)] [] N4 v M' 0 0 := by rw [eN4]; exact Ev.pfi rfl rfl rfl hN2.1 a_x qi_20_1 H
  have H : Ev none e 89 89 [some (.ref 0), some (.int a), some (.int b), some (.int h), some (.int ev), some (.int fi), some (.ref x)] [.int h, .ref x] N4 v M' 0 0 := Ev.back 2 (fun n => rfl) H
  obtain ⟨N6, eN6⟩ : ∃ N, N = (wF N4 x 2 h) := ⟨_, rfl⟩
  have hN6 : SQ N6 := by rw [eN6]; exact hN4.kf
  have H : Ev none e 89 92 [some (.ref 0), some (.int a), some (.int b), some (.int h), some (.int ev), some (.int fi), some (.ref x)] [] N6 v M' 0 0 := by rw [eN6]; exact Ev.pfi rfl rfl rfl hN4.1 a_x qi_20_2 H
  have H : Ev none e 89 96 [some (.ref 0), some (.int a), some (.int b), some (.int h), some (.int ev), some (.int fi), some (.ref x)] [.int ev, .ref x] N6 v M' 0 0 := Ev.back 2 (fun n => rfl) H
  obtain ⟨N8, eN8⟩ : ∃ N, N = (wF N6 x 3 ev) := ⟨_, rfl⟩
  have hN8 : SQ N8 := by rw [eN8]; exact hN6.kf
  have H : Ev none e 89 99 [some (.ref 0), some (.int a), some (.int b), some (.int h), some (.int ev), some (.int fi), some (.ref x)] [] N8 v M' 0 0 := by rw [eN8]; exact Ev.pfi rfl rfl rfl hN6.1 a_x qi_20_3 H
  have H : Ev none e 89 103 [some (.ref 0), some (.int a), some (.int b), some (.int h), some (.int ev), some (.int fi), some (.ref x)] [.int fi, .ref x] N8 v M' 0 0 := Ev.back 2 (fun n => rfl) H
  obtain ⟨N10, eN10⟩ : ∃ N, N = (wF N8 x 4 fi) := ⟨_, rfl⟩
  have hN10 : SQ N10 := by rw [eN10]; exact hN8.kf
  have H : Ev none e 89 106 [some (.ref 0), some (.int a), some (.int b), some (.int h), some (.int ev), some (.int fi), some (.ref x)] [] N10 v M' 0 0 := by rw [eN10]; exact Ev.pfi rfl rfl rfl hN8.1 a_x qi_20_4 H
  have H : Ev none e 89 109 [some (.ref 0), some (.int a), some (.int b), some (.int h), some (.int ev), some (.int fi), some (.ref x)] [.int 1, .ref x] N10 v M' 0 0 := Ev.back 2 (fun n => rfl) H
  obtain ⟨N12, eN12⟩ : ∃ N, N = (wF N10 x 5 1) := ⟨_, rfl⟩
  have hN12 : SQ N12 := by rw [eN12]; exact hN10.kf
  have H : Ev none e 89 112 [some (.ref 0), some (.int a), some (.int b), some (.int h), some (.int ev), some (.int fi), some (.ref x)] [] N12 v M' 0 0 := by rw [eN12]; exact Ev.pfi rfl rfl rfl hN10.1 a_x qi_20_5 H
  have H : Ev none e 89 113 [some (.ref 0), some (.int a), some (.int b), some (.int h), some (.int ev), some (.int fi), some (.ref x)] [.ref 0] N12 v M' 0 0 := Ev.back 1 (fun n => rfl) H
  have H : Ev none e 89 116 [some (.ref 0), some (.int a), some (.int b), some (.int h), some (.int ev), some (.int fi), some (.ref x)] [.ref (fR N12 0 2)] N12 v M' 0 0 := Ev.back 1 (gs_3 rfl rfl (gf_r hN12.1 qa_0 qr_0_2 rfl)) H
  rw [(((((show fR N12 0 2 = fR N10 0 2 from by rw [eN12]; exact fR_wF).trans (show fR N10 0 2 = fR N8 0 2 from by rw [eN10]; exact fR_wF)).trans (show fR N8 0 2 = fR N6 0 2 from by rw [eN8]; exact fR_wF)).trans (show fR N6 0 2 = fR N4 0 2 from by rw [eN6]; exact fR_wF)).trans (show fR N4 0 2 = fR N2 0 2 from by rw [eN4]; exact fR_wF)).trans (show fR N2 0 2 = fR M 0 2 from by rw [eN2]; exact fR_wF)] at H
  have hx13 : gNth sT (fR M 0 2) = some 8 := by rw [← (((((show fR N12 0 2 = fR N10 0 2 from by rw [eN12]; exact fR_wF).trans (show fR N10 0 2 = fR N8 0 2 from by rw [eN10]; exact fR_wF)).trans (show fR N8 0 2 = fR N6 0 2 from by rw [eN8]; exact fR_wF)).trans (show fR N6 0 2 = fR N4 0 2 from by rw [eN6]; exact fR_wF)).trans (show fR N4 0 2 = fR N2 0 2 from by rw [eN4]; exact fR_wF)).trans (show fR N2 0 2 = fR M 0 2 from by rw [eN2]; exact fR_wF)]; exact (hN12.1.fr qa_0 qr_0_2).2
  rw [hLd] at H
  have H : Ev none e 89 117 [some (.ref 0), some (.int a), some (.int b), some (.int h), some (.int ev), some (.int fi), some (.ref x)] [.ref 8, .ref 8] N12 v M' 0 0 := Ev.back 1 (fun n => rfl) H
  have H : Ev none e 89 120 [some (.ref 0), some (.int a), some (.int b), some (.int h), some (.int ev), some (.int fi), some (.ref x)] [.int (zI N12 8 13), .ref 8] N12 v M' 0 0 := Ev.back 1 (gs_3 rfl rfl (gf_i hN12.1 qa_8 qi_8_13 rfl)) H
  rw [(((((show zI N12 8 13 = zI N10 8 13 from by rw [eN12]; exact fI_wF_ne (fun q => absurd q.2 (by decide))).trans (show zI N10 8 13 = zI N8 8 13 from by rw [eN10]; exact fI_wF_ne (fun q => absurd q.2 (by decide)))).trans (show zI N8 8 13 = zI N6 8 13 from by rw [eN8]; exact fI_wF_ne (fun q => absurd q.2 (by decide)))).trans (show zI N6 8 13 = zI N4 8 13 from by rw [eN6]; exact fI_wF_ne (fun q => absurd q.2 (by decide)))).trans (show zI N4 8 13 = zI N2 8 13 from by rw [eN4]; exact fI_wF_ne (fun q => absurd q.2 (by decide)))).trans (show zI N2 8 13 = zI M 8 13 from by rw [eN2]; exact fI_wF_ne (fun q => absurd q.2 (by decide)))] at H
  have H : Ev none e 89 123 [some (.ref 0), some (.int a), some (.int b), some (.int h), some (.int ev), some (.int fi), some (.ref x)] [.int ((zI M 8 13) + 1), .ref 8, .int (zI M 8 13)] N12 v M' 0 0 := Ev.back 3 (fun n => rfl) H
  obtain ⟨N15, eN15⟩ : ∃ N, N = (wF N12 8 13 ((zI M 8 13) + 1)) := ⟨_, rfl⟩
  have hN15 : SQ N15 := by rw [eN15]; exact hN12.kf
  have H : Ev none e 89 126 [some (.ref 0), some (.int a), some (.int b), some (.int h), some (.int ev), some (.int fi), some (.ref x)] [.int (zI M 8 13)] N15 v M' 0 0 := by rw [eN15]; exact Ev.pfi rfl rfl rfl hN12.1 qa_8 qi_8_13 H
  obtain ⟨z1, z2⟩ := Ev.retz rfl rfl H
  subst eN2 eN4 eN6 eN8 eN10 eN12 eN15
  exact ⟨z1, z2⟩
theorem drp_0 {e : Nat} {M M' : Mem} {v : Option Value} {k : Int32} (hS : SQ M) (hLd : fR M 0 2 = 8) (H : Ev none e 90 0 [some (.ref 0), some (.int k)] [] M v M' 0 0) : (∃ e1 v1 M1, e = e1 + 1 ∧ Ev none e1 130 0 [some (.ref 0), some (.int k)] [] M v1 M1 0 0 ∧ Ev none e 90 5 [some (.ref 0), some (.int k)] (v1.toList ++ []) M1 v M' 0 0) := by
  have H : Ev none e 90 2 [some (.ref 0), some (.int k)] [.int k, .ref 0] M v M' 0 0 := Ev.back 2 (fun n => rfl) H
  obtain ⟨e1, rfl⟩ := Ev.dpos rfl rfl H
  obtain ⟨vK1, MK1, K1, H⟩ := Ev.callb (fun n_ => gs_7 rfl rfl (show gCal (.invokevirtual 191) 10 (.int k :: .ref 0 :: []) M = some (.inr (130, [some (.ref 0), some (.int k)], [])) from by show @cond (Option ((List Value × Mem) ⊕ (Nat × Lo × List Value))) (true && gRecv M (.ref 0) 10 && gRoom [] && true) (some (.inr (130, [some (.ref 0), some (.int k)], []))) none = _; rw [recv_s hS.1 qa_0 qo_0]; rfl)) H
  have K1 : Ev none e1 130 0 [some (.ref 0), some (.int k)] [] M vK1 MK1 0 0 := K1
  have HF := H
  exact ⟨e1, vK1, MK1, rfl, K1, HF⟩
theorem drp_5 {e : Nat} {M M' : Mem} {v : Option Value} {k r : Int32} (hS : SQ M) (hLd : fR M 0 2 = 8) (H : Ev none e 90 5 [some (.ref 0), some (.int k)] [.int r] M v M' 0 0) : (r = 0 ∧ v = some (.int 0) ∧ M' = M) ∨ (¬ (r = 0) ∧ (0 ≤ k.toInt ∧ k.toInt < 24) ∧ v = some (.int 1) ∧ M' = (wF M (oI M (8 + 10) k) 5 0)) := by
  have H : Ev none e 90 (if r = 0 then 8 else 10) [some (.ref 0), some (.int k)] [] M v M' 0 0 := Ev.back 1 (fun n => rfl) H
  by_cases h1 : r = 0
  · rw [if_pos h1] at H
    have H : Ev none e 90 9 [some (.ref 0), some (.int k)] [.int 0] M v M' 0 0 := Ev.back 1 (fun n => rfl) H
    obtain ⟨z1, z2⟩ := Ev.retz rfl rfl H
    exact Or.inl ⟨h1, z1, z2⟩
  · rw [if_neg h1] at H
    have H : Ev none e 90 11 [some (.ref 0), some (.int k)] [.ref 0] M v M' 0 0 := Ev.back 1 (fun n => rfl) H
    have H : Ev none e 90 14 [some (.ref 0), some (.int k)] [.ref (fR M 0 2)] M v M' 0 0 := Ev.back 1 (gs_3 rfl rfl (gf_r hS.1 qa_0 qr_0_2 rfl)) H
    rw [hLd] at H
    have H : Ev none e 90 17 [some (.ref 0), some (.int k)] [.ref (8 + 10)] M v M' 0 0 := Ev.back 1 (gs_3 rfl rfl (gf_x hS.1 qa_8 qo_8 (fx_l12 hS qa_8) rfl)) H
    have H : Ev none e 90 18 [some (.ref 0), some (.int k)] [.int k, .ref (8 + 10)] M v M' 0 0 := Ev.back 1 (fun n => rfl) H
    obtain ⟨b2, H⟩ := Ev.aal rfl rfl hS.1 (fx_h12 qa_8) qz_18 H
    have H : Ev none e 90 19 [some (.ref 0), some (.int k)] [.ref (oI M (8 + 10) k)] M v M' 0 0 := H
    have H : Ev none e 90 20 [some (.ref 0), some (.int k)] [.int 0, .ref (oI M (8 + 10) k)] M v M' 0 0 := Ev.back 1 (fun n => rfl) H
    obtain ⟨N4, eN4⟩ : ∃ N, N = (wF M (oI M (8 + 10) k) 5 0) := ⟨_, rfl⟩
    have hN4 : SQ N4 := by rw [eN4]; exact hS.kf
    have H : Ev none e 90 23 [some (.ref 0), some (.int k)] [] N4 v M' 0 0 := by rw [eN4]; exact Ev.pfi rfl rfl rfl hS.1 b2.2 qi_20_5 H
    have H : Ev none e 90 24 [some (.ref 0), some (.int k)] [.int 1] N4 v M' 0 0 := Ev.back 1 (fun n => rfl) H
    obtain ⟨z1, z2⟩ := Ev.retz rfl rfl H
    subst eN4
    exact Or.inr (⟨h1, b2.1, z1, z2⟩)
theorem rnn_0 {e : Nat} {M M' : Mem} {v : Option Value} {t : Int32} (hS : SQ M) (hLd : fR M 0 2 = 8) (H : Ev none e 91 0 [some (.ref 0), some (.int t)] [] M v M' 0 0) : ((G_126 M t 1 400) = 0 ∧ v = some (.int (-1)) ∧ M' = M) ∨ (¬ ((G_126 M t 1 400) = 0) ∧ ((zI M 8 16) + t) ≤ 60000 ∧ (∃ e1 v1 M1, e = e1 + 1 ∧ Ev none e1 54 0 [some (.ref 104), some (.ref 8)] [] M v1 M1 0 0 ∧ Ev none e 91 38 [some (.ref 0), some (.int t)] (v1.toList ++ []) M1 v M' 0 0)) ∨ (¬ ((G_126 M t 1 400) = 0) ∧ ¬ (((zI M 8 16) + t) ≤ 60000) ∧ v = some (.int (-1)) ∧ M' = M) := by
  have H : Ev none e 91 5 [some (.ref 0), some (.int t)] [.int 400, .int 1, .int t] M v M' 0 0 := Ev.back 3 (fun n => rfl) H
  obtain ⟨e1, rfl⟩ := Ev.dpos rfl rfl H
  obtain ⟨vK1, MK1, K1, H⟩ := Ev.callb (fun n => rfl) H
  obtain ⟨pK1, qK1⟩ := g_126 hS K1
  rw [pK1, qK1] at H
  have H : Ev none (e1 + 1) 91 8 [some (.ref 0), some (.int t)] [.int (G_126 M t 1 400)] M v M' 0 0 := H
  have H : Ev none (e1 + 1) 91 (if (G_126 M t 1 400) = 0 then 25 else 11) [some (.ref 0), some (.int t)] [] M v M' 0 0 := Ev.back 1 (fun n => rfl) H
  by_cases h2 : (G_126 M t 1 400) = 0
  · rw [if_pos h2] at H
    have H : Ev none (e1 + 1) 91 26 [some (.ref 0), some (.int t)] [.int (-1)] M v M' 0 0 := Ev.back 1 (fun n => rfl) H
    obtain ⟨z1, z2⟩ := Ev.retz rfl rfl H
    exact Or.inl ⟨h2, z1, z2⟩
  · rw [if_neg h2] at H
    have H : Ev none (e1 + 1) 91 12 [some (.ref 0), some (.int t)] [.ref 0] M v M' 0 0 := Ev.back 1 (fun n => rfl) H
    have H : Ev none (e1 + 1) 91 15 [some (.ref 0), some (.int t)] [.ref (fR M 0 2)] M v M' 0 0 := Ev.back 1 (gs_3 rfl rfl (gf_r hS.1 qa_0 qr_0_2 rfl)) H
    rw [hLd] at H
    have H : Ev none (e1 + 1) 91 18 [some (.ref 0), some (.int t)] [.int (zI M 8 16)] M v M' 0 0 := Ev.back 1 (gs_3 rfl rfl (gf_i hS.1 qa_8 qi_8_16 rfl)) H
    have H : Ev none (e1 + 1) 91 (if ((zI M 8 16) + t) ≤ 60000 then 27 else 25) [some (.ref 0), some (.int t)] [] M v M' 0 0 := Ev.back 4 (fun n => rfl) H
    by_cases h3 : ((zI M 8 16) + t) ≤ 60000
    · rw [if_pos h3] at H
      have H : Ev none (e1 + 1) 91 28 [some (.ref 0), some (.int t)] [.ref 0] M v M' 0 0 := Ev.back 1 (fun n => rfl) H
      have H : Ev none (e1 + 1) 91 31 [some (.ref 0), some (.int t)] [.ref 104] M v M' 0 0 := Ev.back 1 (gs_3 rfl rfl (gf_u hS.1 qa_0 qr_0_3 qu_22 rfl)) H
      have H : Ev none (e1 + 1) 91 32 [some (.ref 0), some (.int t)] [.ref 0, .ref 104] M v M' 0 0 := Ev.back 1 (fun n => rfl) H
      have H : Ev none (e1 + 1) 91 35 [some (.ref 0), some (.int t)] [.ref (fR M 0 2), .ref 104] M v M' 0 0 := Ev.back 1 (gs_3 rfl rfl (gf_r hS.1 qa_0 qr_0_2 rfl)) H
      rw [hLd] at H
      obtain ⟨vK4, MK4, K4, H⟩ := Ev.callb (fun n_ => gs_7 rfl rfl (show gCal (.invokevirtual 197) 10 (.ref 8 :: .ref 104 :: []) M = some (.inr (54, [some (.ref 104), some (.ref 8)], [])) from by show @cond (Option ((List Value × Mem) ⊕ (Nat × Lo × List Value))) (true && gRecv M (.ref 104) 7 && gRoom [] && true) (some (.inr (54, [some (.ref 104), some (.ref 8)], []))) none = _; rw [recv_s hS.1 qa_104 qo_22]; rfl)) H
      have K4 : Ev none e1 54 0 [some (.ref 104), some (.ref 8)] [] M vK4 MK4 0 0 := K4
      have HF := H
      exact Or.inr (Or.inl ⟨h2, h3, ⟨e1, vK4, MK4, rfl, K4, HF⟩⟩)
    · rw [if_neg h3] at H
      have H : Ev none (e1 + 1) 91 26 [some (.ref 0), some (.int t)] [.int (-1)] M v M' 0 0 := Ev.back 1 (fun n => rfl) H
      obtain ⟨z1, z2⟩ := Ev.retz rfl rfl H
      exact Or.inr (Or.inr (⟨h2, h3, z1, z2⟩))
theorem rnn_38 {e : Nat} {M M' : Mem} {v : Option Value} {t : Int32} (hS : SQ M) (H : Ev none e 91 38 [some (.ref 0), some (.int t)] [] M v M' 0 0) : (∃ e1 v1 M1, e = e1 + 1 ∧ Ev none e1 58 0 [some (.ref 104), some (.int t), none, none, none, none, none, none, none] [] M v1 M1 0 0 ∧ Ev none e 91 46 [some (.ref 0), some (.int t)] (v1.toList ++ []) M1 v M' 0 0) := by
  have H : Ev none e 91 39 [some (.ref 0), some (.int t)] [.ref 0] M v M' 0 0 := Ev.back 1 (fun n => rfl) H
  have H : Ev none e 91 42 [some (.ref 0), some (.int t)] [.ref 104] M v M' 0 0 := Ev.back 1 (gs_3 rfl rfl (gf_u hS.1 qa_0 qr_0_3 qu_22 rfl)) H
  have H : Ev none e 91 43 [some (.ref 0), some (.int t)] [.int t, .ref 104] M v M' 0 0 := Ev.back 1 (fun n => rfl) H
  obtain ⟨e1, rfl⟩ := Ev.dpos rfl rfl H
  obtain ⟨vK1, MK1, K1, H⟩ := Ev.callb (fun n_ => gs_7 rfl rfl (show gCal (.invokevirtual 200) 10 (.int t :: .ref 104 :: []) M = some (.inr (58, [some (.ref 104), some (.int t), none, none, none, none, none, none, none], [])) from by show @cond (Option ((List Value × Mem) ⊕ (Nat × Lo × List Value))) (true && gRecv M (.ref 104) 7 && gRoom [] && true) (some (.inr (58, [some (.ref 104), some (.int t), none, none, none, none, none, none, none], []))) none = _; rw [recv_s hS.1 qa_104 qo_22]; rfl)) H
  have K1 : Ev none e1 58 0 [some (.ref 104), some (.int t), none, none, none, none, none, none, none] [] M vK1 MK1 0 0 := K1
  have HF := H
  exact ⟨e1, vK1, MK1, rfl, K1, HF⟩
theorem rnn_46 {e : Nat} {M M' : Mem} {v : Option Value} {t r : Int32} (hS : SQ M) (H : Ev none e 91 46 [some (.ref 0), some (.int t)] [.int r] M v M' 0 0) : v = some (.int r) ∧ M' = M := by
  obtain ⟨z1, z2⟩ := Ev.retz rfl rfl H
  exact ⟨z1, z2⟩
theorem wkk_0 {e : Nat} {M M' : Mem} {v : Option Value} (hS : SQ M) (hLd : fR M 0 2 = 8) (H : Ev none e 92 0 [some (.ref 0)] [] M v M' 0 0) : (∃ e1 v1 M1, e = e1 + 1 ∧ Ev none e1 54 0 [some (.ref 104), some (.ref 8)] [] M v1 M1 0 0 ∧ Ev none e 92 11 [some (.ref 0)] (v1.toList ++ []) M1 v M' 0 0) := by
  have H : Ev none e 92 1 [some (.ref 0)] [.ref 0] M v M' 0 0 := Ev.back 1 (fun n => rfl) H
  have H : Ev none e 92 4 [some (.ref 0)] [.ref 104] M v M' 0 0 := Ev.back 1 (gs_3 rfl rfl (gf_u hS.1 qa_0 qr_0_3 qu_22 rfl)) H
  have H : Ev none e 92 5 [some (.ref 0)] [.ref 0, .ref 104] M v M' 0 0 := Ev.back 1 (fun n => rfl) H
  have H : Ev none e 92 8 [some (.ref 0)] [.ref (fR M 0 2), .ref 104] M v M' 0 0 := Ev.back 1 (gs_3 rfl rfl (gf_r hS.1 qa_0 qr_0_2 rfl)) H
  rw [hLd] at H
  obtain ⟨e1, rfl⟩ := Ev.dpos rfl rfl H
  obtain ⟨vK1, MK1, K1, H⟩ := Ev.callb (fun n_ => gs_7 rfl rfl (show gCal (.invokevirtual 197) 10 (.ref 8 :: .ref 104 :: []) M = some (.inr (54, [some (.ref 104), some (.ref 8)], [])) from by show @cond (Option ((List Value × Mem) ⊕ (Nat × Lo × List Value))) (true && gRecv M (.ref 104) 7 && gRoom [] && true) (some (.inr (54, [some (.ref 104), some (.ref 8)], []))) none = _; rw [recv_s hS.1 qa_104 qo_22]; rfl)) H
  have K1 : Ev none e1 54 0 [some (.ref 104), some (.ref 8)] [] M vK1 MK1 0 0 := K1
  have HF := H
  exact ⟨e1, vK1, MK1, rfl, K1, HF⟩
theorem wkk_11 {e : Nat} {M M' : Mem} {v : Option Value} (hS : SQ M) (H : Ev none e 92 11 [some (.ref 0)] [] M v M' 0 0) : (∃ e1 v1 M1, e = e1 + 1 ∧ Ev none e1 63 0 [some (.ref 104), none, none] [] M v1 M1 0 0 ∧ Ev none e 92 18 [some (.ref 0)] (v1.toList ++ []) M1 v M' 0 0) := by
  have H : Ev none e 92 12 [some (.ref 0)] [.ref 0] M v M' 0 0 := Ev.back 1 (fun n => rfl) H
  have H : Ev none e 92 15 [some (.ref 0)] [.ref 104] M v M' 0 0 := Ev.back 1 (gs_3 rfl rfl (gf_u hS.1 qa_0 qr_0_3 qu_22 rfl)) H
  obtain ⟨e1, rfl⟩ := Ev.dpos rfl rfl H
  obtain ⟨vK1, MK1, K1, H⟩ := Ev.callb (fun n_ => gs_7 rfl rfl (show gCal (.invokevirtual 204) 10 (.ref 104 :: []) M = some (.inr (63, [some (.ref 104), none, none], [])) from by show @cond (Option ((List Value × Mem) ⊕ (Nat × Lo × List Value))) (true && gRecv M (.ref 104) 7 && gRoom [] && true) (some (.inr (63, [some (.ref 104), none, none], []))) none = _; rw [recv_s hS.1 qa_104 qo_22]; rfl)) H
  have K1 : Ev none e1 63 0 [some (.ref 104), none, none] [] M vK1 MK1 0 0 := K1
  have HF := H
  exact ⟨e1, vK1, MK1, rfl, K1, HF⟩
theorem wkk_18 {e : Nat} {M M' : Mem} {v : Option Value} (hS : SQ M) (H : Ev none e 92 18 [some (.ref 0)] [] M v M' 0 0) : (∃ e1 v1 M1, e = e1 + 1 ∧ Ev none e1 57 0 [some (.ref 104), none, none] [] M v1 M1 0 0 ∧ Ev none e 92 25 [some (.ref 0)] (v1.toList ++ []) M1 v M' 0 0) := by
  have H : Ev none e 92 19 [some (.ref 0)] [.ref 0] M v M' 0 0 := Ev.back 1 (fun n => rfl) H
  have H : Ev none e 92 22 [some (.ref 0)] [.ref 104] M v M' 0 0 := Ev.back 1 (gs_3 rfl rfl (gf_u hS.1 qa_0 qr_0_3 qu_22 rfl)) H
  obtain ⟨e1, rfl⟩ := Ev.dpos rfl rfl H
  obtain ⟨vK1, MK1, K1, H⟩ := Ev.callb (fun n_ => gs_7 rfl rfl (show gCal (.invokevirtual 207) 10 (.ref 104 :: []) M = some (.inr (57, [some (.ref 104), none, none], [])) from by show @cond (Option ((List Value × Mem) ⊕ (Nat × Lo × List Value))) (true && gRecv M (.ref 104) 7 && gRoom [] && true) (some (.inr (57, [some (.ref 104), none, none], []))) none = _; rw [recv_s hS.1 qa_104 qo_22]; rfl)) H
  have K1 : Ev none e1 57 0 [some (.ref 104), none, none] [] M vK1 MK1 0 0 := K1
  have HF := H
  exact ⟨e1, vK1, MK1, rfl, K1, HF⟩
theorem wkk_25 {e : Nat} {M M' : Mem} {v : Option Value} {r : Int32} (hS : SQ M) (H : Ev none e 92 25 [some (.ref 0)] [.int r] M v M' 0 0) : v = some (.int r) ∧ M' = M := by
  obtain ⟨z1, z2⟩ := Ev.retz rfl rfl H
  exact ⟨z1, z2⟩
theorem onk_0 {e : Nat} {M M' : Mem} {v : Option Value} {t : Int32} (hS : SQ M) (H : Ev none e 134 0 [some (.ref 0), some (.int t)] [] M v M' 0 0) : (∃ e1 v1 M1, e = e1 + 1 ∧ Ev none e1 58 0 [some (.ref 104), some (.int t), none, none, none, none, none, none, none] [] M v1 M1 0 0 ∧ Ev none e 134 8 [some (.ref 0), some (.int t)] (v1.toList ++ []) M1 v M' 0 0) := by
  have H : Ev none e 134 1 [some (.ref 0), some (.int t)] [.ref 0] M v M' 0 0 := Ev.back 1 (fun n => rfl) H
  have H : Ev none e 134 4 [some (.ref 0), some (.int t)] [.ref 104] M v M' 0 0 := Ev.back 1 (gs_3 rfl rfl (gf_u hS.1 qa_0 qr_0_3 qu_22 rfl)) H
  have H : Ev none e 134 5 [some (.ref 0), some (.int t)] [.int t, .ref 104] M v M' 0 0 := Ev.back 1 (fun n => rfl) H
  obtain ⟨e1, rfl⟩ := Ev.dpos rfl rfl H
  obtain ⟨vK1, MK1, K1, H⟩ := Ev.callb (fun n_ => gs_7 rfl rfl (show gCal (.invokevirtual 200) 10 (.int t :: .ref 104 :: []) M = some (.inr (58, [some (.ref 104), some (.int t), none, none, none, none, none, none, none], [])) from by show @cond (Option ((List Value × Mem) ⊕ (Nat × Lo × List Value))) (true && gRecv M (.ref 104) 7 && gRoom [] && true) (some (.inr (58, [some (.ref 104), some (.int t), none, none, none, none, none, none, none], []))) none = _; rw [recv_s hS.1 qa_104 qo_22]; rfl)) H
  have K1 : Ev none e1 58 0 [some (.ref 104), some (.int t), none, none, none, none, none, none, none] [] M vK1 MK1 0 0 := K1
  have HF := H
  exact ⟨e1, vK1, MK1, rfl, K1, HF⟩
theorem onk_8 {e : Nat} {M M' : Mem} {v : Option Value} {t r : Int32} (hS : SQ M) (H : Ev none e 134 8 [some (.ref 0), some (.int t)] [.int r] M v M' 0 0) : (∃ e1 v1 M1, e = e1 + 1 ∧ Ev none e1 63 0 [some (.ref 104), none, none] [] M v1 M1 0 0 ∧ Ev none e 134 16 [some (.ref 0), some (.int t)] (v1.toList ++ []) M1 v M' 0 0) := by
  have H : Ev none e 134 10 [some (.ref 0), some (.int t)] [.ref 0] M v M' 0 0 := Ev.back 2 (fun n => rfl) H
  have H : Ev none e 134 13 [some (.ref 0), some (.int t)] [.ref 104] M v M' 0 0 := Ev.back 1 (gs_3 rfl rfl (gf_u hS.1 qa_0 qr_0_3 qu_22 rfl)) H
  obtain ⟨e1, rfl⟩ := Ev.dpos rfl rfl H
  obtain ⟨vK1, MK1, K1, H⟩ := Ev.callb (fun n_ => gs_7 rfl rfl (show gCal (.invokevirtual 204) 10 (.ref 104 :: []) M = some (.inr (63, [some (.ref 104), none, none], [])) from by show @cond (Option ((List Value × Mem) ⊕ (Nat × Lo × List Value))) (true && gRecv M (.ref 104) 7 && gRoom [] && true) (some (.inr (63, [some (.ref 104), none, none], []))) none = _; rw [recv_s hS.1 qa_104 qo_22]; rfl)) H
  have K1 : Ev none e1 63 0 [some (.ref 104), none, none] [] M vK1 MK1 0 0 := K1
  have HF := H
  exact ⟨e1, vK1, MK1, rfl, K1, HF⟩
theorem onk_16 {e : Nat} {M M' : Mem} {v : Option Value} {t : Int32} (hS : SQ M) (H : Ev none e 134 16 [some (.ref 0), some (.int t)] [] M v M' 0 0) : v = none ∧ M' = M := by
  obtain ⟨z1, z2⟩ := Ev.retb (fun n => rfl) H
  exact ⟨z1, z2⟩
theorem rai_0 {e : Nat} {M M' : Mem} {v : Option Value} {n : Int32} (hS : SQ M) (hLd : fR M 0 2 = 8) (H : Ev none e 93 0 [some (.ref 0), some (.int n), none, none] [] M v M' 0 0) : ((G_126 M n 1 200) = 0 ∧ v = some (.int 0) ∧ M' = M) ∨ (¬ ((G_126 M n 1 200) = 0) ∧ Ev none e 93 15 [some (.ref 0), some (.int n), some (.int 0), none] [] M v M' 0 0) := by
  have H : Ev none e 93 5 [some (.ref 0), some (.int n), none, none] [.int 200, .int 1, .int n] M v M' 0 0 := Ev.back 3 (fun n => rfl) H
  obtain ⟨e1, rfl⟩ := Ev.dpos rfl rfl H
  obtain ⟨vK1, MK1, K1, H⟩ := Ev.callb (fun n => rfl) H
  obtain ⟨pK1, qK1⟩ := g_126 hS K1
  rw [pK1, qK1] at H
  have H : Ev none (e1 + 1) 93 8 [some (.ref 0), some (.int n), none, none] [.int (G_126 M n 1 200)] M v M' 0 0 := H
  have H : Ev none (e1 + 1) 93 (if (G_126 M n 1 200) = 0 then 11 else 13) [some (.ref 0), some (.int n), none, none] [] M v M' 0 0 := Ev.back 1 (fun n => rfl) H
  by_cases h2 : (G_126 M n 1 200) = 0
  · rw [if_pos h2] at H
    have H : Ev none (e1 + 1) 93 12 [some (.ref 0), some (.int n), none, none] [.int 0] M v M' 0 0 := Ev.back 1 (fun n => rfl) H
    obtain ⟨z1, z2⟩ := Ev.retz rfl rfl H
    exact Or.inl ⟨h2, z1, z2⟩
  · rw [if_neg h2] at H
    have H : Ev none (e1 + 1) 93 15 [some (.ref 0), some (.int n), some (.int 0), none] [] M v M' 0 0 := Ev.back 2 (fun n => rfl) H
    have HF := H
    exact Or.inr (⟨h2, HF⟩)
theorem rai_15 {e : Nat} {M M' : Mem} {v : Option Value} {n c : Int32} {c3 : Option Value} (hS : SQ M) (hLd : fR M 0 2 = 8) (H : Ev none e 93 15 [some (.ref 0), some (.int n), some (.int c), c3] [] M v M' 0 0) : ((G_6 M 8) ≤ c ∧ v = some (.int 1) ∧ M' = M) ∨ (¬ ((G_6 M 8) ≤ c) ∧ (rI M (8 + 1) c) = 0 ∧ (0 ≤ c.toInt ∧ c.toInt < 256) ∧ (0 ≤ c.toInt ∧ c.toInt < 256) ∧ (0 ≤ c.toInt ∧ c.toInt < 256) ∧ Ev none e 93 15 [some (.ref 0), some (.int n), some (.int (c + 1)), some (.int (rI M (8 + 1) c))] [] (wI M (8 + 5) c.toNatClampNeg (if ((rI M (8 + 5) c) + n) < 200 then ((rI M (8 + 5) c) + n) else 200)) v M' 0 0) ∨ (¬ ((G_6 M 8) ≤ c) ∧ ¬ ((rI M (8 + 1) c) = 0) ∧ (rI M (8 + 1) c) = 2 ∧ (0 ≤ c.toInt ∧ c.toInt < 256) ∧ (0 ≤ c.toInt ∧ c.toInt < 256) ∧ (0 ≤ c.toInt ∧ c.toInt < 256) ∧ Ev none e 93 15 [some (.ref 0), some (.int n), some (.int (c + 1)), some (.int (rI M (8 + 1) c))] [] (wI M (8 + 5) c.toNatClampNeg (if ((rI M (8 + 5) c) + n) < 200 then ((rI M (8 + 5) c) + n) else 200)) v M' 0 0) ∨ (¬ ((G_6 M 8) ≤ c) ∧ ¬ ((rI M (8 + 1) c) = 0) ∧ ¬ ((rI M (8 + 1) c) = 2) ∧ (rI M (8 + 1) c) = 1 ∧ (0 ≤ c.toInt ∧ c.toInt < 256) ∧ (0 ≤ c.toInt ∧ c.toInt < 256) ∧ (0 ≤ c.toInt ∧ c.toInt < 256) ∧ Ev none e 93 15 [some (.ref 0), some (.int n), some (.int (c + 1)), some (.int (rI M (8 + 1) c))] [] (wI M (8 + 5) c.toNatClampNeg (if ((rI M (8 + 5) c) + n) < 200 then ((rI M (8 + 5) c) + n) else 200)) v M' 0 0) ∨ (¬ ((G_6 M 8) ≤ c) ∧ ¬ ((rI M (8 + 1) c) = 0) ∧ ¬ ((rI M (8 + 1) c) = 2) ∧ ¬ ((rI M (8 + 1) c) = 1) ∧ (0 ≤ c.toInt ∧ c.toInt < 256) ∧ Ev none e 93 15 [some (.ref 0), some (.int n), some (.int (c + 1)), some (.int (rI M (8 + 1) c))] [] M v M' 0 0) := by
  have H : Ev none e 93 17 [some (.ref 0), some (.int n), some (.int c), c3] [.ref 0, .int c] M v M' 0 0 := Ev.back 2 (fun n => rfl) H
  have H : Ev none e 93 20 [some (.ref 0), some (.int n), some (.int c), c3] [.ref (fR M 0 2), .int c] M v M' 0 0 := Ev.back 1 (gs_3 rfl rfl (gf_r hS.1 qa_0 qr_0_2 rfl)) H
  rw [hLd] at H
  obtain ⟨e1, rfl⟩ := Ev.dpos rfl rfl H
  obtain ⟨vK1, MK1, K1, H⟩ := Ev.callb (fun n_ => gs_7 rfl rfl (show gCal (.invokevirtual 211) 10 (.ref 8 :: [.int c]) M = some (.inr (6, [some (.ref 8)], [.int c])) from by show @cond (Option ((List Value × Mem) ⊕ (Nat × Lo × List Value))) (true && gRecv M (.ref 8) 1 && gRoom [.int c] && true) (some (.inr (6, [some (.ref 8)], [.int c]))) none = _; rw [recv_s hS.1 qa_8 qo_8]; rfl)) H
  obtain ⟨pK1, qK1⟩ := g_6 hS qa_8 K1
  rw [pK1, qK1] at H
  have H : Ev none (e1 + 1) 93 23 [some (.ref 0), some (.int n), some (.int c), c3] [.int (G_6 M 8), .int c] M v M' 0 0 := H
  have H : Ev none (e1 + 1) 93 (if (G_6 M 8) ≤ c then 82 else 26) [some (.ref 0), some (.int n), some (.int c), c3] [] M v M' 0 0 := Ev.back 1 (fun n => rfl) H
  by_cases h2 : (G_6 M 8) ≤ c
  · rw [if_pos h2] at H
    have H : Ev none (e1 + 1) 93 83 [some (.ref 0), some (.int n), some (.int c), c3] [.int 1] M v M' 0 0 := Ev.back 1 (fun n => rfl) H
    obtain ⟨z1, z2⟩ := Ev.retz rfl rfl H
    exact Or.inl ⟨h2, z1, z2⟩
  · rw [if_neg h2] at H
    have H : Ev none (e1 + 1) 93 27 [some (.ref 0), some (.int n), some (.int c), c3] [.ref 0] M v M' 0 0 := Ev.back 1 (fun n => rfl) H
    have H : Ev none (e1 + 1) 93 30 [some (.ref 0), some (.int n), some (.int c), c3] [.ref (fR M 0 2)] M v M' 0 0 := Ev.back 1 (gs_3 rfl rfl (gf_r hS.1 qa_0 qr_0_2 rfl)) H
    rw [hLd] at H
    have H : Ev none (e1 + 1) 93 33 [some (.ref 0), some (.int n), some (.int c), c3] [.ref (8 + 1)] M v M' 0 0 := Ev.back 1 (gs_3 rfl rfl (gf_x hS.1 qa_8 qo_8 (fx_l2 hS qa_8) rfl)) H
    have H : Ev none (e1 + 1) 93 34 [some (.ref 0), some (.int n), some (.int c), c3] [.int c, .ref (8 + 1)] M v M' 0 0 := Ev.back 1 (fun n => rfl) H
    obtain ⟨b3, H⟩ := Ev.ial rfl rfl hS.1 (fx_h2 qa_8) qw_9 H
    have H : Ev none (e1 + 1) 93 35 [some (.ref 0), some (.int n), some (.int c), c3] [.int (rI M (8 + 1) c)] M v M' 0 0 := H
    have H : Ev none (e1 + 1) 93 (if (rI M (8 + 1) c) = 0 then 50 else 40) [some (.ref 0), some (.int n), some (.int c), some (.int (rI M (8 + 1) c))] [] M v M' 0 0 := Ev.back 3 (fun n => rfl) H
    by_cases h4 : (rI M (8 + 1) c) = 0
    · rw [if_pos h4] at H
      have H : Ev none (e1 + 1) 93 51 [some (.ref 0), some (.int n), some (.int c), some (.int (rI M (8 + 1) c))] [.ref 0] M v M' 0 0 := Ev.back 1 (fun n => rfl) H
      have H : Ev none (e1 + 1) 93 54 [some (.ref 0), some (.int n), some (.int c), some (.int (rI M (8 + 1) c))] [.ref (fR M 0 2)] M v M' 0 0 := Ev.back 1 (gs_3 rfl rfl (gf_r hS.1 qa_0 qr_0_2 rfl)) H
      rw [hLd] at H
      have H : Ev none (e1 + 1) 93 57 [some (.ref 0), some (.int n), some (.int c), some (.int (rI M (8 + 1) c))] [.ref (8 + 5)] M v M' 0 0 := Ev.back 1 (gs_3 rfl rfl (gf_x hS.1 qa_8 qo_8 (fx_l6 hS qa_8) rfl)) H
      have H : Ev none (e1 + 1) 93 62 [some (.ref 0), some (.int n), some (.int c), some (.int (rI M (8 + 1) c))] [.ref 0, .int 200, .int c, .ref (8 + 5)] M v M' 0 0 := Ev.back 3 (fun n => rfl) H
      have H : Ev none (e1 + 1) 93 65 [some (.ref 0), some (.int n), some (.int c), some (.int (rI M (8 + 1) c))] [.ref (fR M 0 2), .int 200, .int c, .ref (8 + 5)] M v M' 0 0 := Ev.back 1 (gs_3 rfl rfl (gf_r hS.1 qa_0 qr_0_2 rfl)) H
      rw [hLd] at H
      have H : Ev none (e1 + 1) 93 68 [some (.ref 0), some (.int n), some (.int c), some (.int (rI M (8 + 1) c))] [.ref (8 + 5), .int 200, .int c, .ref (8 + 5)] M v M' 0 0 := Ev.back 1 (gs_3 rfl rfl (gf_x hS.1 qa_8 qo_8 (fx_l6 hS qa_8) rfl)) H
      have H : Ev none (e1 + 1) 93 69 [some (.ref 0), some (.int n), some (.int c), some (.int (rI M (8 + 1) c))] [.int c, .ref (8 + 5), .int 200, .int c, .ref (8 + 5)] M v M' 0 0 := Ev.back 1 (fun n => rfl) H
      obtain ⟨b5, H⟩ := Ev.ial rfl rfl hS.1 (fx_h6 qa_8) qw_13 H
      have H : Ev none (e1 + 1) 93 70 [some (.ref 0), some (.int n), some (.int c), some (.int (rI M (8 + 1) c))] [.int (rI M (8 + 5) c), .int 200, .int c, .ref (8 + 5)] M v M' 0 0 := H
      have H : Ev none (e1 + 1) 93 75 [some (.ref 0), some (.int n), some (.int c), some (.int (rI M (8 + 1) c))] [.int (if ((rI M (8 + 5) c) + n) < 200 then ((rI M (8 + 5) c) + n) else 200), .int c, .ref (8 + 5)] M v M' 0 0 := Ev.back 3 (fun n => rfl) H
      obtain ⟨b6, H⟩ := Ev.ias rfl rfl hS.1 (fx_h6 qa_8) qw_13 H
      obtain ⟨N7, eN7⟩ : ∃ N, N = (wI M (8 + 5) c.toNatClampNeg (if ((rI M (8 + 5) c) + n) < 200 then ((rI M (8 + 5) c) + n) else 200)) := ⟨_, rfl⟩
      have hN7 : SQ N7 := by rw [eN7]; exact hS.ki
      have H : Ev none (e1 + 1) 93 76 [some (.ref 0), some (.int n), some (.int c), some (.int (rI M (8 + 1) c))] [] N7 v M' 0 0 := by rw [eN7]; exact H
      have H : Ev none (e1 + 1) 93 15 [some (.ref 0), some (.int n), some (.int (c + 1)), some (.int (rI M (8 + 1) c))] [] N7 v M' 0 0 := Ev.back 2 (fun n => rfl) H
      have HF := H
      subst eN7
      exact Or.inr (Or.inl ⟨h2, h4, b3, b5, b6, HF⟩)
    · rw [if_neg h4] at H
      have H : Ev none (e1 + 1) 93 (if (rI M (8 + 1) c) = 2 then 50 else 45) [some (.ref 0), some (.int n), some (.int c), some (.int (rI M (8 + 1) c))] [] M v M' 0 0 := Ev.back 3 (fun n => rfl) H
      by_cases h8 : (rI M (8 + 1) c) = 2
      · rw [if_pos h8] at H
        have H : Ev none (e1 + 1) 93 51 [some (.ref 0), some (.int n), some (.int c), some (.int (rI M (8 + 1) c))] [.ref 0] M v M' 0 0 := Ev.back 1 (fun n => rfl) H
        have H : Ev none (e1 + 1) 93 54 [some (.ref 0), some (.int n), some (.int c), some (.int (rI M (8 + 1) c))] [.ref (fR M 0 2)] M v M' 0 0 := Ev.back 1 (gs_3 rfl rfl (gf_r hS.1 qa_0 qr_0_2 rfl)) H
        rw [hLd] at H
        have H : Ev none (e1 + 1) 93 57 [some (.ref 0), some (.int n), some (.int c), some (.int (rI M (8 + 1) c))] [.ref (8 + 5)] M v M' 0 0 := Ev.back 1 (gs_3 rfl rfl (gf_x hS.1 qa_8 qo_8 (fx_l6 hS qa_8) rfl)) H
        have H : Ev none (e1 + 1) 93 62 [some (.ref 0), some (.int n), some (.int c), some (.int (rI M (8 + 1) c))] [.ref 0, .int 200, .int c, .ref (8 + 5)] M v M' 0 0 := Ev.back 3 (fun n => rfl) H
        have H : Ev none (e1 + 1) 93 65 [some (.ref 0), some (.int n), some (.int c), some (.int (rI M (8 + 1) c))] [.ref (fR M 0 2), .int 200, .int c, .ref (8 + 5)] M v M' 0 0 := Ev.back 1 (gs_3 rfl rfl (gf_r hS.1 qa_0 qr_0_2 rfl)) H
        rw [hLd] at H
        have H : Ev none (e1 + 1) 93 68 [some (.ref 0), some (.int n), some (.int c), some (.int (rI M (8 + 1) c))] [.ref (8 + 5), .int 200, .int c, .ref (8 + 5)] M v M' 0 0 := Ev.back 1 (gs_3 rfl rfl (gf_x hS.1 qa_8 qo_8 (fx_l6 hS qa_8) rfl)) H
        have H : Ev none (e1 + 1) 93 69 [some (.ref 0), some (.int n), some (.int c), some (.int (rI M (8 + 1) c))] [.int c, .ref (8 + 5), .int 200, .int c, .ref (8 + 5)] M v M' 0 0 := Ev.back 1 (fun n => rfl) H
        obtain ⟨b9, H⟩ := Ev.ial rfl rfl hS.1 (fx_h6 qa_8) qw_13 H
        have H : Ev none (e1 + 1) 93 70 [some (.ref 0), some (.int n), some (.int c), some (.int (rI M (8 + 1) c))] [.int (rI M (8 + 5) c), .int 200, .int c, .ref (8 + 5)] M v M' 0 0 := H
        have H : Ev none (e1 + 1) 93 75 [some (.ref 0), some (.int n), some (.int c), some (.int (rI M (8 + 1) c))] [.int (if ((rI M (8 + 5) c) + n) < 200 then ((rI M (8 + 5) c) + n) else 200), .int c, .ref (8 + 5)] M v M' 0 0 := Ev.back 3 (fun n => rfl) H
        obtain ⟨b10, H⟩ := Ev.ias rfl rfl hS.1 (fx_h6 qa_8) qw_13 H
        obtain ⟨N11, eN11⟩ : ∃ N, N = (wI M (8 + 5) c.toNatClampNeg (if ((rI M (8 + 5) c) + n) < 200 then ((rI M (8 + 5) c) + n) else 200)) := ⟨_, rfl⟩
        have hN11 : SQ N11 := by rw [eN11]; exact hS.ki
        have H : Ev none (e1 + 1) 93 76 [some (.ref 0), some (.int n), some (.int c), some (.int (rI M (8 + 1) c))] [] N11 v M' 0 0 := by rw [eN11]; exact H
        have H : Ev none (e1 + 1) 93 15 [some (.ref 0), some (.int n), some (.int (c + 1)), some (.int (rI M (8 + 1) c))] [] N11 v M' 0 0 := Ev.back 2 (fun n => rfl) H
        have HF := H
        subst eN11
        exact Or.inr (Or.inr (Or.inl ⟨h2, h4, h8, b3, b9, b10, HF⟩))
      · rw [if_neg h8] at H
        have H : Ev none (e1 + 1) 93 (if (rI M (8 + 1) c) = 1 then 50 else 76) [some (.ref 0), some (.int n), some (.int c), some (.int (rI M (8 + 1) c))] [] M v M' 0 0 := Ev.back 3 (fun n => rfl) H
        by_cases h12 : (rI M (8 + 1) c) = 1
        · rw [if_pos h12] at H
          have H : Ev none (e1 + 1) 93 51 [some (.ref 0), some (.int n), some (.int c), some (.int (rI M (8 + 1) c))] [.ref 0] M v M' 0 0 := Ev.back 1 (fun n => rfl) H
          have H : Ev none (e1 + 1) 93 54 [some (.ref 0), some (.int n), some (.int c), some (.int (rI M (8 + 1) c))] [.ref (fR M 0 2)] M v M' 0 0 := Ev.back 1 (gs_3 rfl rfl (gf_r hS.1 qa_0 qr_0_2 rfl)) H
          rw [hLd] at H
          have H : Ev none (e1 + 1) 93 57 [some (.ref 0), some (.int n), some (.int c), some (.int (rI M (8 + 1) c))] [.ref (8 + 5)] M v M' 0 0 := Ev.back 1 (gs_3 rfl rfl (gf_x hS.1 qa_8 qo_8 (fx_l6 hS qa_8) rfl)) H
          have H : Ev none (e1 + 1) 93 62 [some (.ref 0), some (.int n), some (.int c), some (.int (rI M (8 + 1) c))] [.ref 0, .int 200, .int c, .ref (8 + 5)] M v M' 0 0 := Ev.back 3 (fun n => rfl) H
          have H : Ev none (e1 + 1) 93 65 [some (.ref 0), some (.int n), some (.int c), some (.int (rI M (8 + 1) c))] [.ref (fR M 0 2), .int 200, .int c, .ref (8 + 5)] M v M' 0 0 := Ev.back 1 (gs_3 rfl rfl (gf_r hS.1 qa_0 qr_0_2 rfl)) H
          rw [hLd] at H
          have H : Ev none (e1 + 1) 93 68 [some (.ref 0), some (.int n), some (.int c), some (.int (rI M (8 + 1) c))] [.ref (8 + 5), .int 200, .int c, .ref (8 + 5)] M v M' 0 0 := Ev.back 1 (gs_3 rfl rfl (gf_x hS.1 qa_8 qo_8 (fx_l6 hS qa_8) rfl)) H
          have H : Ev none (e1 + 1) 93 69 [some (.ref 0), some (.int n), some (.int c), some (.int (rI M (8 + 1) c))] [.int c, .ref (8 + 5), .int 200, .int c, .ref (8 + 5)] M v M' 0 0 := Ev.back 1 (fun n => rfl) H
          obtain ⟨b13, H⟩ := Ev.ial rfl rfl hS.1 (fx_h6 qa_8) qw_13 H
          have H : Ev none (e1 + 1) 93 70 [some (.ref 0), some (.int n), some (.int c), some (.int (rI M (8 + 1) c))] [.int (rI M (8 + 5) c), .int 200, .int c, .ref (8 + 5)] M v M' 0 0 := H
          have H : Ev none (e1 + 1) 93 75 [some (.ref 0), some (.int n), some (.int c), some (.int (rI M (8 + 1) c))] [.int (if ((rI M (8 + 5) c) + n) < 200 then ((rI M (8 + 5) c) + n) else 200), .int c, .ref (8 + 5)] M v M' 0 0 := Ev.back 3 (fun n => rfl) H
          obtain ⟨b14, H⟩ := Ev.ias rfl rfl hS.1 (fx_h6 qa_8) qw_13 H
          obtain ⟨N15, eN15⟩ : ∃ N, N = (wI M (8 + 5) c.toNatClampNeg (if ((rI M (8 + 5) c) + n) < 200 then ((rI M (8 + 5) c) + n) else 200)) := ⟨_, rfl⟩
          have hN15 : SQ N15 := by rw [eN15]; exact hS.ki
          have H : Ev none (e1 + 1) 93 76 [some (.ref 0), some (.int n), some (.int c), some (.int (rI M (8 + 1) c))] [] N15 v M' 0 0 := by rw [eN15]; exact H
          have H : Ev none (e1 + 1) 93 15 [some (.ref 0), some (.int n), some (.int (c + 1)), some (.int (rI M (8 + 1) c))] [] N15 v M' 0 0 := Ev.back 2 (fun n => rfl) H
          have HF := H
          subst eN15
          exact Or.inr (Or.inr (Or.inr (Or.inl ⟨h2, h4, h8, h12, b3, b13, b14, HF⟩)))
        · rw [if_neg h12] at H
          have H : Ev none (e1 + 1) 93 15 [some (.ref 0), some (.int n), some (.int (c + 1)), some (.int (rI M (8 + 1) c))] [] M v M' 0 0 := Ev.back 2 (fun n => rfl) H
          have HF := H
          exact Or.inr (Or.inr (Or.inr (Or.inr (⟨h2, h4, h8, h12, b3, HF⟩))))
theorem sno_0 {e : Nat} {M M' : Mem} {v : Option Value} (hS : SQ M) (hLd : fR M 0 2 = 8) (H : Ev none e 94 0 [some (.ref 0)] [] M v M' 0 0) : v = none ∧ M' = (wA M (8 + 7) 0) := by
  have H : Ev none e 94 1 [some (.ref 0)] [.ref 0] M v M' 0 0 := Ev.back 1 (fun n => rfl) H
  have H : Ev none e 94 4 [some (.ref 0)] [.ref (fR M 0 2)] M v M' 0 0 := Ev.back 1 (gs_3 rfl rfl (gf_r hS.1 qa_0 qr_0_2 rfl)) H
  rw [hLd] at H
  have H : Ev none e 94 7 [some (.ref 0)] [.ref (8 + 7)] M v M' 0 0 := Ev.back 1 (gs_3 rfl rfl (gf_x hS.1 qa_8 qo_8 (fx_l8 hS qa_8) rfl)) H
  have H : Ev none e 94 8 [some (.ref 0)] [.int 0, .ref (8 + 7)] M v M' 0 0 := Ev.back 1 (fun n => rfl) H
  have H := Ev.fil rfl rfl (fun _ _ => rfl) hS.1 (fx_h8 qa_8) qw_15 H
  obtain ⟨N1, eN1⟩ : ∃ N, N = (wA M (8 + 7) 0) := ⟨_, rfl⟩
  have hN1 : SQ N1 := by rw [eN1]; exact hS.ka
  have H : Ev none e 94 11 [some (.ref 0)] [] N1 v M' 0 0 := by rw [eN1]; exact H
  obtain ⟨z1, z2⟩ := Ev.retb (fun n => rfl) H
  subst eN1
  exact ⟨z1, z2⟩
theorem lay_0 {e : Nat} {M M' : Mem} {v : Option Value} {c k : Int32} (hS : SQ M) (hLd : fR M 0 2 = 8) (H : Ev none e 95 0 [some (.ref 0), some (.int c), some (.int k)] [] M v M' 0 0) : (∃ e1 v1 M1, e = e1 + 1 ∧ Ev none e1 127 0 [some (.ref 0), some (.int c)] [] M v1 M1 0 0 ∧ Ev none e 95 5 [some (.ref 0), some (.int c), some (.int k)] (v1.toList ++ []) M1 v M' 0 0) := by
  have H : Ev none e 95 2 [some (.ref 0), some (.int c), some (.int k)] [.int c, .ref 0] M v M' 0 0 := Ev.back 2 (fun n => rfl) H
  obtain ⟨e1, rfl⟩ := Ev.dpos rfl rfl H
  obtain ⟨vK1, MK1, K1, H⟩ := Ev.callb (fun n_ => gs_7 rfl rfl (show gCal (.invokevirtual 113) 10 (.int c :: .ref 0 :: []) M = some (.inr (127, [some (.ref 0), some (.int c)], [])) from by show @cond (Option ((List Value × Mem) ⊕ (Nat × Lo × List Value))) (true && gRecv M (.ref 0) 10 && gRoom [] && true) (some (.inr (127, [some (.ref 0), some (.int c)], []))) none = _; rw [recv_s hS.1 qa_0 qo_0]; rfl)) H
  have K1 : Ev none e1 127 0 [some (.ref 0), some (.int c)] [] M vK1 MK1 0 0 := K1
  have HF := H
  exact ⟨e1, vK1, MK1, rfl, K1, HF⟩
theorem lay_5 {e : Nat} {M M' : Mem} {v : Option Value} {c k r : Int32} (hS : SQ M) (hLd : fR M 0 2 = 8) (H : Ev none e 95 5 [some (.ref 0), some (.int c), some (.int k)] [.int r] M v M' 0 0) : (r = 0 ∧ v = some (.int 0) ∧ M' = M) ∨ (¬ (r = 0) ∧ (G_126 M k 0 6) = 0 ∧ v = some (.int 0) ∧ M' = M) ∨ (¬ (r = 0) ∧ ¬ ((G_126 M k 0 6) = 0) ∧ k = 3 ∧ (∃ e1 v1 M1, e = e1 + 1 ∧ Ev none e1 9 0 [some (.ref 8), some (.int c), none] [] M v1 M1 0 0 ∧ Ev none e 95 39 [some (.ref 0), some (.int c), some (.int k)] (v1.toList ++ []) M1 v M' 0 0)) ∨ (¬ (r = 0) ∧ ¬ ((G_126 M k 0 6) = 0) ∧ ¬ (k = 3) ∧ k = 6 ∧ (∃ e1 v1 M1, e = e1 + 1 ∧ Ev none e1 9 0 [some (.ref 8), some (.int c), none] [] M v1 M1 0 0 ∧ Ev none e 95 39 [some (.ref 0), some (.int c), some (.int k)] (v1.toList ++ []) M1 v M' 0 0)) ∨ (¬ (r = 0) ∧ ¬ ((G_126 M k 0 6) = 0) ∧ ¬ (k = 3) ∧ ¬ (k = 6) ∧ v = some (.int 1) ∧ M' = (X_10 M 8 c k)) := by
  have H : Ev none e 95 (if r = 0 then 18 else 8) [some (.ref 0), some (.int c), some (.int k)] [] M v M' 0 0 := Ev.back 1 (fun n => rfl) H
  by_cases h1 : r = 0
  · rw [if_pos h1] at H
    have H : Ev none e 95 19 [some (.ref 0), some (.int c), some (.int k)] [.int 0] M v M' 0 0 := Ev.back 1 (fun n => rfl) H
    obtain ⟨z1, z2⟩ := Ev.retz rfl rfl H
    exact Or.inl ⟨h1, z1, z2⟩
  · rw [if_neg h1] at H
    have H : Ev none e 95 12 [some (.ref 0), some (.int c), some (.int k)] [.int 6, .int 0, .int k] M v M' 0 0 := Ev.back 3 (fun n => rfl) H
    obtain ⟨e1, rfl⟩ := Ev.dpos rfl rfl H
    obtain ⟨vK2, MK2, K2, H⟩ := Ev.callb (fun n => rfl) H
    obtain ⟨pK2, qK2⟩ := g_126 hS K2
    rw [pK2, qK2] at H
    have H : Ev none (e1 + 1) 95 15 [some (.ref 0), some (.int c), some (.int k)] [.int (G_126 M k 0 6)] M v M' 0 0 := H
    have H : Ev none (e1 + 1) 95 (if (G_126 M k 0 6) = 0 then 18 else 20) [some (.ref 0), some (.int c), some (.int k)] [] M v M' 0 0 := Ev.back 1 (fun n => rfl) H
    by_cases h3 : (G_126 M k 0 6) = 0
    · rw [if_pos h3] at H
      have H : Ev none (e1 + 1) 95 19 [some (.ref 0), some (.int c), some (.int k)] [.int 0] M v M' 0 0 := Ev.back 1 (fun n => rfl) H
      obtain ⟨z1, z2⟩ := Ev.retz rfl rfl H
      exact Or.inr (Or.inl ⟨h1, h3, z1, z2⟩)
    · rw [if_neg h3] at H
      have H : Ev none (e1 + 1) 95 (if k = 3 then 31 else 25) [some (.ref 0), some (.int c), some (.int k)] [] M v M' 0 0 := Ev.back 3 (fun n => rfl) H
      by_cases h4 : k = 3
      · rw [if_pos h4] at H
        have H : Ev none (e1 + 1) 95 32 [some (.ref 0), some (.int c), some (.int k)] [.ref 0] M v M' 0 0 := Ev.back 1 (fun n => rfl) H
        have H : Ev none (e1 + 1) 95 35 [some (.ref 0), some (.int c), some (.int k)] [.ref (fR M 0 2)] M v M' 0 0 := Ev.back 1 (gs_3 rfl rfl (gf_r hS.1 qa_0 qr_0_2 rfl)) H
        rw [hLd] at H
        have H : Ev none (e1 + 1) 95 36 [some (.ref 0), some (.int c), some (.int k)] [.int c, .ref 8] M v M' 0 0 := Ev.back 1 (fun n => rfl) H
        obtain ⟨vK5, MK5, K5, H⟩ := Ev.callb (fun n_ => gs_7 rfl rfl (show gCal (.invokevirtual 120) 10 (.int c :: .ref 8 :: []) M = some (.inr (9, [some (.ref 8), some (.int c), none], [])) from by show @cond (Option ((List Value × Mem) ⊕ (Nat × Lo × List Value))) (true && gRecv M (.ref 8) 1 && gRoom [] && true) (some (.inr (9, [some (.ref 8), some (.int c), none], []))) none = _; rw [recv_s hS.1 qa_8 qo_8]; rfl)) H
        have K5 : Ev none e1 9 0 [some (.ref 8), some (.int c), none] [] M vK5 MK5 0 0 := K5
        have HF := H
        exact Or.inr (Or.inr (Or.inl ⟨h1, h3, h4, ⟨e1, vK5, MK5, rfl, K5, HF⟩⟩))
      · rw [if_neg h4] at H
        have H : Ev none (e1 + 1) 95 (if k = 6 then 31 else 56) [some (.ref 0), some (.int c), some (.int k)] [] M v M' 0 0 := Ev.back 3 (fun n => rfl) H
        by_cases h6 : k = 6
        · rw [if_pos h6] at H
          have H : Ev none (e1 + 1) 95 32 [some (.ref 0), some (.int c), some (.int k)] [.ref 0] M v M' 0 0 := Ev.back 1 (fun n => rfl) H
          have H : Ev none (e1 + 1) 95 35 [some (.ref 0), some (.int c), some (.int k)] [.ref (fR M 0 2)] M v M' 0 0 := Ev.back 1 (gs_3 rfl rfl (gf_r hS.1 qa_0 qr_0_2 rfl)) H
          rw [hLd] at H
          have H : Ev none (e1 + 1) 95 36 [some (.ref 0), some (.int c), some (.int k)] [.int c, .ref 8] M v M' 0 0 := Ev.back 1 (fun n => rfl) H
          obtain ⟨vK7, MK7, K7, H⟩ := Ev.callb (fun n_ => gs_7 rfl rfl (show gCal (.invokevirtual 120) 10 (.int c :: .ref 8 :: []) M = some (.inr (9, [some (.ref 8), some (.int c), none], [])) from by show @cond (Option ((List Value × Mem) ⊕ (Nat × Lo × List Value))) (true && gRecv M (.ref 8) 1 && gRoom [] && true) (some (.inr (9, [some (.ref 8), some (.int c), none], []))) none = _; rw [recv_s hS.1 qa_8 qo_8]; rfl)) H
          have K7 : Ev none e1 9 0 [some (.ref 8), some (.int c), none] [] M vK7 MK7 0 0 := K7
          have HF := H
          exact Or.inr (Or.inr (Or.inr (Or.inl ⟨h1, h3, h4, h6, ⟨e1, vK7, MK7, rfl, K7, HF⟩⟩)))
        · rw [if_neg h6] at H
          have H : Ev none (e1 + 1) 95 57 [some (.ref 0), some (.int c), some (.int k)] [.ref 0] M v M' 0 0 := Ev.back 1 (fun n => rfl) H
          have H : Ev none (e1 + 1) 95 60 [some (.ref 0), some (.int c), some (.int k)] [.ref (fR M 0 2)] M v M' 0 0 := Ev.back 1 (gs_3 rfl rfl (gf_r hS.1 qa_0 qr_0_2 rfl)) H
          rw [hLd] at H
          have H : Ev none (e1 + 1) 95 62 [some (.ref 0), some (.int c), some (.int k)] [.int k, .int c, .ref 8] M v M' 0 0 := Ev.back 2 (fun n => rfl) H
          obtain ⟨vK8, MK8, K8, H⟩ := Ev.callb (fun n_ => gs_7 rfl rfl (show gCal (.invokevirtual 238) 10 (.int k :: .int c :: .ref 8 :: []) M = some (.inr (10, [some (.ref 8), some (.int c), some (.int k)], [])) from by show @cond (Option ((List Value × Mem) ⊕ (Nat × Lo × List Value))) (true && gRecv M (.ref 8) 1 && gRoom [] && true) (some (.inr (10, [some (.ref 8), some (.int c), some (.int k)], []))) none = _; rw [recv_s hS.1 qa_8 qo_8]; rfl)) H
          obtain ⟨pK8, qK8⟩ := g_10 hS qa_8 K8
          rw [pK8, qK8] at H
          obtain ⟨N9, eN9⟩ : ∃ N, N = (X_10 M 8 c k) := ⟨_, rfl⟩
          have hN9 : SQ N9 := by rw [eN9]; exact X_10_sx hS qa_8
          rw [← eN9] at H
          have H : Ev none (e1 + 1) 95 65 [some (.ref 0), some (.int c), some (.int k)] [] N9 v M' 0 0 := H
          have H : Ev none (e1 + 1) 95 66 [some (.ref 0), some (.int c), some (.int k)] [.int 1] N9 v M' 0 0 := Ev.back 1 (fun n => rfl) H
          obtain ⟨z1, z2⟩ := Ev.retz rfl rfl H
          subst eN9
          exact Or.inr (Or.inr (Or.inr (Or.inr (⟨h1, h3, h4, h6, z1, z2⟩))))
theorem lay_39 {e : Nat} {M M' : Mem} {v : Option Value} {c k r : Int32} (hS : SQ M) (hLd : fR M 0 2 = 8) (H : Ev none e 95 39 [some (.ref 0), some (.int c), some (.int k)] [.int r] M v M' 0 0) : (r = 0 ∧ (rI M (8 + 8) c) ≤ 0 ∧ (0 ≤ c.toInt ∧ c.toInt < 256) ∧ v = some (.int 1) ∧ M' = (X_10 M 8 c k)) ∨ (r = 0 ∧ ¬ ((rI M (8 + 8) c) ≤ 0) ∧ (0 ≤ c.toInt ∧ c.toInt < 256) ∧ v = some (.int 0) ∧ M' = M) ∨ (¬ (r = 0) ∧ v = some (.int 0) ∧ M' = M) := by
  have H : Ev none e 95 (if r = 0 then 42 else 54) [some (.ref 0), some (.int c), some (.int k)] [] M v M' 0 0 := Ev.back 1 (fun n => rfl) H
  by_cases h1 : r = 0
  · rw [if_pos h1] at H
    have H : Ev none e 95 43 [some (.ref 0), some (.int c), some (.int k)] [.ref 0] M v M' 0 0 := Ev.back 1 (fun n => rfl) H
    have H : Ev none e 95 46 [some (.ref 0), some (.int c), some (.int k)] [.ref (fR M 0 2)] M v M' 0 0 := Ev.back 1 (gs_3 rfl rfl (gf_r hS.1 qa_0 qr_0_2 rfl)) H
    rw [hLd] at H
    have H : Ev none e 95 49 [some (.ref 0), some (.int c), some (.int k)] [.ref (8 + 8)] M v M' 0 0 := Ev.back 1 (gs_3 rfl rfl (gf_x hS.1 qa_8 qo_8 (fx_l9 hS qa_8) rfl)) H
    have H : Ev none e 95 50 [some (.ref 0), some (.int c), some (.int k)] [.int c, .ref (8 + 8)] M v M' 0 0 := Ev.back 1 (fun n => rfl) H
    obtain ⟨b2, H⟩ := Ev.ial rfl rfl hS.1 (fx_h9 qa_8) qw_16 H
    have H : Ev none e 95 51 [some (.ref 0), some (.int c), some (.int k)] [.int (rI M (8 + 8) c)] M v M' 0 0 := H
    have H : Ev none e 95 (if (rI M (8 + 8) c) ≤ 0 then 56 else 54) [some (.ref 0), some (.int c), some (.int k)] [] M v M' 0 0 := Ev.back 1 (fun n => rfl) H
    by_cases h3 : (rI M (8 + 8) c) ≤ 0
    · rw [if_pos h3] at H
      have H : Ev none e 95 57 [some (.ref 0), some (.int c), some (.int k)] [.ref 0] M v M' 0 0 := Ev.back 1 (fun n => rfl) H
      have H : Ev none e 95 60 [some (.ref 0), some (.int c), some (.int k)] [.ref (fR M 0 2)] M v M' 0 0 := Ev.back 1 (gs_3 rfl rfl (gf_r hS.1 qa_0 qr_0_2 rfl)) H
      rw [hLd] at H
      have H : Ev none e 95 62 [some (.ref 0), some (.int c), some (.int k)] [.int k, .int c, .ref 8] M v M' 0 0 := Ev.back 2 (fun n => rfl) H
      obtain ⟨e1, rfl⟩ := Ev.dpos rfl rfl H
      obtain ⟨vK4, MK4, K4, H⟩ := Ev.callb (fun n_ => gs_7 rfl rfl (show gCal (.invokevirtual 238) 10 (.int k :: .int c :: .ref 8 :: []) M = some (.inr (10, [some (.ref 8), some (.int c), some (.int k)], [])) from by show @cond (Option ((List Value × Mem) ⊕ (Nat × Lo × List Value))) (true && gRecv M (.ref 8) 1 && gRoom [] && true) (some (.inr (10, [some (.ref 8), some (.int c), some (.int k)], []))) none = _; rw [recv_s hS.1 qa_8 qo_8]; rfl)) H
      obtain ⟨pK4, qK4⟩ := g_10 hS qa_8 K4
      rw [pK4, qK4] at H
      obtain ⟨N5, eN5⟩ : ∃ N, N = (X_10 M 8 c k) := ⟨_, rfl⟩
      have hN5 : SQ N5 := by rw [eN5]; exact X_10_sx hS qa_8
      rw [← eN5] at H
      have H : Ev none (e1 + 1) 95 65 [some (.ref 0), some (.int c), some (.int k)] [] N5 v M' 0 0 := H
      have H : Ev none (e1 + 1) 95 66 [some (.ref 0), some (.int c), some (.int k)] [.int 1] N5 v M' 0 0 := Ev.back 1 (fun n => rfl) H
      obtain ⟨z1, z2⟩ := Ev.retz rfl rfl H
      subst eN5
      exact Or.inl ⟨h1, h3, b2, z1, z2⟩
    · rw [if_neg h3] at H
      have H : Ev none e 95 55 [some (.ref 0), some (.int c), some (.int k)] [.int 0] M v M' 0 0 := Ev.back 1 (fun n => rfl) H
      obtain ⟨z1, z2⟩ := Ev.retz rfl rfl H
      exact Or.inr (Or.inl ⟨h1, h3, b2, z1, z2⟩)
  · rw [if_neg h1] at H
    have H : Ev none e 95 55 [some (.ref 0), some (.int c), some (.int k)] [.int 0] M v M' 0 0 := Ev.back 1 (fun n => rfl) H
    obtain ⟨z1, z2⟩ := Ev.retz rfl rfl H
    exact Or.inr (Or.inr (⟨h1, z1, z2⟩))
theorem prk_0 {e : Nat} {M M' : Mem} {v : Option Value} {a b : Int32} (hS : SQ M) (H : Ev none e 82 0 [some (.ref 0), some (.int a), some (.int b), none] [] M v M' 0 0) : (∃ e1 v1 M1, e = e1 + 1 ∧ Ev none e1 83 0 [some (.ref 0), some (.int a), some (.int b), none] [] M v1 M1 0 0 ∧ Ev none e 82 6 [some (.ref 0), some (.int a), some (.int b), none] (v1.toList ++ []) M1 v M' 0 0) := by
  have H : Ev none e 82 3 [some (.ref 0), some (.int a), some (.int b), none] [.int b, .int a, .ref 0] M v M' 0 0 := Ev.back 3 (fun n => rfl) H
  obtain ⟨e1, rfl⟩ := Ev.dpos rfl rfl H
  obtain ⟨vK1, MK1, K1, H⟩ := Ev.callb (fun n_ => gs_7 rfl rfl (show gCal (.invokevirtual 95) 10 (.int b :: .int a :: .ref 0 :: []) M = some (.inr (83, [some (.ref 0), some (.int a), some (.int b), none], [])) from by show @cond (Option ((List Value × Mem) ⊕ (Nat × Lo × List Value))) (true && gRecv M (.ref 0) 10 && gRoom [] && true) (some (.inr (83, [some (.ref 0), some (.int a), some (.int b), none], []))) none = _; rw [recv_s hS.1 qa_0 qo_0]; rfl)) H
  have K1 : Ev none e1 83 0 [some (.ref 0), some (.int a), some (.int b), none] [] M vK1 MK1 0 0 := K1
  have HF := H
  exact ⟨e1, vK1, MK1, rfl, K1, HF⟩
theorem prk_6 {e : Nat} {M M' : Mem} {v : Option Value} {a b r : Int32} (hS : SQ M) (hLd : fR M 0 2 = 8) (H : Ev none e 82 6 [some (.ref 0), some (.int a), some (.int b), none] [.int r] M v M' 0 0) : (r = 0 ∧ v = some (.int r) ∧ M' = (wF M 1 1 0)) ∨ (¬ (r = 0) ∧ (∃ e1 v1 M1, e = e1 + 1 ∧ Ev none e1 12 0 [some (.ref 8), some (.int a), some (.int b), some (.ref 1), none, none] [] M v1 M1 0 0 ∧ Ev none e 82 24 [some (.ref 0), some (.int a), some (.int b), some (.int r)] (v1.toList ++ []) M1 v M' 0 0)) := by
  have H : Ev none e 82 (if r = 0 then 24 else 11) [some (.ref 0), some (.int a), some (.int b), some (.int r)] [] M v M' 0 0 := Ev.back 3 (fun n => rfl) H
  by_cases h1 : r = 0
  · rw [if_pos h1] at H
    have H : Ev none e 82 25 [some (.ref 0), some (.int a), some (.int b), some (.int r)] [.ref 0] M v M' 0 0 := Ev.back 1 (fun n => rfl) H
    have H : Ev none e 82 28 [some (.ref 0), some (.int a), some (.int b), some (.int r)] [.ref 1] M v M' 0 0 := Ev.back 1 (gs_3 rfl rfl (gf_u hS.1 qa_0 qr_0_0 qu_1 rfl)) H
    have H : Ev none e 82 29 [some (.ref 0), some (.int a), some (.int b), some (.int r)] [.int 0, .ref 1] M v M' 0 0 := Ev.back 1 (fun n => rfl) H
    obtain ⟨N3, eN3⟩ : ∃ N, N = (wF M 1 1 0) := ⟨_, rfl⟩
    have hN3 : SQ N3 := by rw [eN3]; exact hS.kf
    have H : Ev none e 82 32 [some (.ref 0), some (.int a), some (.int b), some (.int r)] [] N3 v M' 0 0 := by rw [eN3]; exact Ev.pfi rfl rfl rfl hS.1 qa_1 qi_1_1 H
    have H : Ev none e 82 33 [some (.ref 0), some (.int a), some (.int b), some (.int r)] [.int r] N3 v M' 0 0 := Ev.back 1 (fun n => rfl) H
    obtain ⟨z1, z2⟩ := Ev.retz rfl rfl H
    subst eN3
    exact Or.inl ⟨h1, z1, z2⟩
  · rw [if_neg h1] at H
    have H : Ev none e 82 12 [some (.ref 0), some (.int a), some (.int b), some (.int r)] [.ref 0] M v M' 0 0 := Ev.back 1 (fun n => rfl) H
    have H : Ev none e 82 15 [some (.ref 0), some (.int a), some (.int b), some (.int r)] [.ref (fR M 0 2)] M v M' 0 0 := Ev.back 1 (gs_3 rfl rfl (gf_r hS.1 qa_0 qr_0_2 rfl)) H
    rw [hLd] at H
    have H : Ev none e 82 18 [some (.ref 0), some (.int a), some (.int b), some (.int r)] [.ref 0, .int b, .int a, .ref 8] M v M' 0 0 := Ev.back 3 (fun n => rfl) H
    have H : Ev none e 82 21 [some (.ref 0), some (.int a), some (.int b), some (.int r)] [.ref 1, .int b, .int a, .ref 8] M v M' 0 0 := Ev.back 1 (gs_3 rfl rfl (gf_u hS.1 qa_0 qr_0_0 qu_1 rfl)) H
    obtain ⟨e1, rfl⟩ := Ev.dpos rfl rfl H
    obtain ⟨vK4, MK4, K4, H⟩ := Ev.callb (fun n_ => gs_7 rfl rfl (show gCal (.invokevirtual 99) 10 (.ref 1 :: .int b :: .int a :: .ref 8 :: []) M = some (.inr (12, [some (.ref 8), some (.int a), some (.int b), some (.ref 1), none, none], [])) from by show @cond (Option ((List Value × Mem) ⊕ (Nat × Lo × List Value))) (true && gRecv M (.ref 8) 1 && gRoom [] && true) (some (.inr (12, [some (.ref 8), some (.int a), some (.int b), some (.ref 1), none, none], []))) none = _; rw [recv_s hS.1 qa_8 qo_8]; rfl)) H
    have K4 : Ev none e1 12 0 [some (.ref 8), some (.int a), some (.int b), some (.ref 1), none, none] [] M vK4 MK4 0 0 := K4
    have HF := H
    exact Or.inr (⟨h1, ⟨e1, vK4, MK4, rfl, K4, HF⟩⟩)
theorem prk_24 {e : Nat} {M M' : Mem} {v : Option Value} {a b r : Int32} (hS : SQ M) (H : Ev none e 82 24 [some (.ref 0), some (.int a), some (.int b), some (.int r)] [] M v M' 0 0) : v = some (.int r) ∧ M' = (wF M 1 1 0) := by
  have H : Ev none e 82 25 [some (.ref 0), some (.int a), some (.int b), some (.int r)] [.ref 0] M v M' 0 0 := Ev.back 1 (fun n => rfl) H
  have H : Ev none e 82 28 [some (.ref 0), some (.int a), some (.int b), some (.int r)] [.ref 1] M v M' 0 0 := Ev.back 1 (gs_3 rfl rfl (gf_u hS.1 qa_0 qr_0_0 qu_1 rfl)) H
  have H : Ev none e 82 29 [some (.ref 0), some (.int a), some (.int b), some (.int r)] [.int 0, .ref 1] M v M' 0 0 := Ev.back 1 (fun n => rfl) H
  obtain ⟨N2, eN2⟩ : ∃ N, N = (wF M 1 1 0) := ⟨_, rfl⟩
  have hN2 : SQ N2 := by rw [eN2]; exact hS.kf
  have H : Ev none e 82 32 [some (.ref 0), some (.int a), some (.int b), some (.int r)] [] N2 v M' 0 0 := by rw [eN2]; exact Ev.pfi rfl rfl rfl hS.1 qa_1 qi_1_1 H
  have H : Ev none e 82 33 [some (.ref 0), some (.int a), some (.int b), some (.int r)] [.int r] N2 v M' 0 0 := Ev.back 1 (fun n => rfl) H
  obtain ⟨z1, z2⟩ := Ev.retz rfl rfl H
  subst eN2
  exact ⟨z1, z2⟩
theorem img_0 {e : Nat} {M M' : Mem} {v : Option Value} {k : Int32} (hS : SQ M) (hLd : fR M 0 2 = 8) (H : Ev none e 123 0 [some (.ref 0), some (.int k)] [] M v M' 0 0) : ((G_126 M k 0 2) = 0 ∧ v = some (.int 0) ∧ M' = M) ∨ (¬ ((G_126 M k 0 2) = 0) ∧ (0 ≤ k.toInt ∧ k.toInt < 3) ∧ (∃ e1 v1 M1, e = e1 + 1 ∧ Ev none e1 13 0 [some (.ref (oI M 339 k)), some (.ref 8), none] [] M v1 M1 0 0 ∧ Ev none e 123 24 [some (.ref 0), some (.int k)] (v1.toList ++ []) M1 v M' 0 0)) := by
  have H : Ev none e 123 3 [some (.ref 0), some (.int k)] [.int 2, .int 0, .int k] M v M' 0 0 := Ev.back 3 (fun n => rfl) H
  obtain ⟨e1, rfl⟩ := Ev.dpos rfl rfl H
  obtain ⟨vK1, MK1, K1, H⟩ := Ev.callb (fun n => rfl) H
  obtain ⟨pK1, qK1⟩ := g_126 hS K1
  rw [pK1, qK1] at H
  have H : Ev none (e1 + 1) 123 6 [some (.ref 0), some (.int k)] [.int (G_126 M k 0 2)] M v M' 0 0 := H
  have H : Ev none (e1 + 1) 123 (if (G_126 M k 0 2) = 0 then 9 else 11) [some (.ref 0), some (.int k)] [] M v M' 0 0 := Ev.back 1 (fun n => rfl) H
  by_cases h2 : (G_126 M k 0 2) = 0
  · rw [if_pos h2] at H
    have H : Ev none (e1 + 1) 123 10 [some (.ref 0), some (.int k)] [.int 0] M v M' 0 0 := Ev.back 1 (fun n => rfl) H
    obtain ⟨z1, z2⟩ := Ev.retz rfl rfl H
    exact Or.inl ⟨h2, z1, z2⟩
  · rw [if_neg h2] at H
    have H : Ev none (e1 + 1) 123 12 [some (.ref 0), some (.int k)] [.ref 0] M v M' 0 0 := Ev.back 1 (fun n => rfl) H
    have H : Ev none (e1 + 1) 123 15 [some (.ref 0), some (.int k)] [.ref 339] M v M' 0 0 := Ev.back 1 (gs_3 rfl rfl (gf_u hS.1 qa_0 qr_0_7 qu_56 rfl)) H
    have H : Ev none (e1 + 1) 123 16 [some (.ref 0), some (.int k)] [.int k, .ref 339] M v M' 0 0 := Ev.back 1 (fun n => rfl) H
    obtain ⟨b3, H⟩ := Ev.aal rfl rfl hS.1 qa_339 qz_56 H
    have H : Ev none (e1 + 1) 123 17 [some (.ref 0), some (.int k)] [.ref (oI M 339 k)] M v M' 0 0 := H
    have H : Ev none (e1 + 1) 123 18 [some (.ref 0), some (.int k)] [.ref 0, .ref (oI M 339 k)] M v M' 0 0 := Ev.back 1 (fun n => rfl) H
    have H : Ev none (e1 + 1) 123 21 [some (.ref 0), some (.int k)] [.ref (fR M 0 2), .ref (oI M 339 k)] M v M' 0 0 := Ev.back 1 (gs_3 rfl rfl (gf_r hS.1 qa_0 qr_0_2 rfl)) H
    rw [hLd] at H
    obtain ⟨vK4, MK4, K4, H⟩ := Ev.callb (fun n_ => gs_7 rfl rfl (show gCal (.invokevirtual 390) 10 (.ref 8 :: .ref (oI M 339 k) :: []) M = some (.inr (13, [some (.ref (oI M 339 k)), some (.ref 8), none], [])) from by show @cond (Option ((List Value × Mem) ⊕ (Nat × Lo × List Value))) (true && gRecv M (.ref (oI M 339 k)) 1 && gRoom [] && true) (some (.inr (13, [some (.ref (oI M 339 k)), some (.ref 8), none], []))) none = _; rw [recv_s hS.1 b3.2 qo_8]; rfl)) H
    have K4 : Ev none e1 13 0 [some (.ref (oI M 339 k)), some (.ref 8), none] [] M vK4 MK4 0 0 := K4
    have HF := H
    exact Or.inr (⟨h2, b3.1, ⟨e1, vK4, MK4, rfl, K4, HF⟩⟩)
theorem img_24 {e : Nat} {M M' : Mem} {v : Option Value} {k : Int32} (hS : SQ M) (H : Ev none e 123 24 [some (.ref 0), some (.int k)] [] M v M' 0 0) : (0 ≤ k.toInt ∧ k.toInt < 3) ∧ v = some (.int 1) ∧ M' = (wI M 340 k.toNatClampNeg (vp_nar .boolean 1)) := by
  have H : Ev none e 123 25 [some (.ref 0), some (.int k)] [.ref 0] M v M' 0 0 := Ev.back 1 (fun n => rfl) H
  have H : Ev none e 123 28 [some (.ref 0), some (.int k)] [.ref 340] M v M' 0 0 := Ev.back 1 (gs_3 rfl rfl (gf_u hS.1 qa_0 qr_0_8 qu_57 rfl)) H
  have H : Ev none e 123 30 [some (.ref 0), some (.int k)] [.int 1, .int k, .ref 340] M v M' 0 0 := Ev.back 2 (fun n => rfl) H
  obtain ⟨b1, H⟩ := Ev.bas3 rfl rfl hS.1 qa_340 qw_57 H
  obtain ⟨N2, eN2⟩ : ∃ N, N = (wI M 340 k.toNatClampNeg (vp_nar .boolean 1)) := ⟨_, rfl⟩
  have hN2 : SQ N2 := by rw [eN2]; exact hS.ki
  have H : Ev none e 123 31 [some (.ref 0), some (.int k)] [] N2 v M' 0 0 := by rw [eN2]; exact H
  have H : Ev none e 123 32 [some (.ref 0), some (.int k)] [.int 1] N2 v M' 0 0 := Ev.back 1 (fun n => rfl) H
  obtain ⟨z1, z2⟩ := Ev.retz rfl rfl H
  subst eN2
  exact ⟨b1, z1, z2⟩
theorem rst_0 {e : Nat} {M M' : Mem} {v : Option Value} {k : Int32} (hS : SQ M) (hLd : fR M 0 2 = 8) (H : Ev none e 124 0 [some (.ref 0), some (.int k)] [] M v M' 0 0) : ((G_126 M k 0 2) = 0 ∧ v = some (.int 0) ∧ M' = M) ∨ (¬ ((G_126 M k 0 2) = 0) ∧ (rI M 340 k) = 0 ∧ (0 ≤ k.toInt ∧ k.toInt < 3) ∧ v = some (.int 0) ∧ M' = M) ∨ (¬ ((G_126 M k 0 2) = 0) ∧ ¬ ((rI M 340 k) = 0) ∧ (0 ≤ k.toInt ∧ k.toInt < 3) ∧ (0 ≤ k.toInt ∧ k.toInt < 3) ∧ (∃ e1 v1 M1, e = e1 + 1 ∧ Ev none e1 13 0 [some (.ref 8), some (.ref (oI M 339 k)), none] [] M v1 M1 0 0 ∧ Ev none e 124 33 [some (.ref 0), some (.int k)] (v1.toList ++ []) M1 v M' 0 0)) := by
  have H : Ev none e 124 3 [some (.ref 0), some (.int k)] [.int 2, .int 0, .int k] M v M' 0 0 := Ev.back 3 (fun n => rfl) H
  obtain ⟨e1, rfl⟩ := Ev.dpos rfl rfl H
  obtain ⟨vK1, MK1, K1, H⟩ := Ev.callb (fun n => rfl) H
  obtain ⟨pK1, qK1⟩ := g_126 hS K1
  rw [pK1, qK1] at H
  have H : Ev none (e1 + 1) 124 6 [some (.ref 0), some (.int k)] [.int (G_126 M k 0 2)] M v M' 0 0 := H
  have H : Ev none (e1 + 1) 124 (if (G_126 M k 0 2) = 0 then 18 else 9) [some (.ref 0), some (.int k)] [] M v M' 0 0 := Ev.back 1 (fun n => rfl) H
  by_cases h2 : (G_126 M k 0 2) = 0
  · rw [if_pos h2] at H
    have H : Ev none (e1 + 1) 124 19 [some (.ref 0), some (.int k)] [.int 0] M v M' 0 0 := Ev.back 1 (fun n => rfl) H
    obtain ⟨z1, z2⟩ := Ev.retz rfl rfl H
    exact Or.inl ⟨h2, z1, z2⟩
  · rw [if_neg h2] at H
    have H : Ev none (e1 + 1) 124 10 [some (.ref 0), some (.int k)] [.ref 0] M v M' 0 0 := Ev.back 1 (fun n => rfl) H
    have H : Ev none (e1 + 1) 124 13 [some (.ref 0), some (.int k)] [.ref 340] M v M' 0 0 := Ev.back 1 (gs_3 rfl rfl (gf_u hS.1 qa_0 qr_0_8 qu_57 rfl)) H
    have H : Ev none (e1 + 1) 124 14 [some (.ref 0), some (.int k)] [.int k, .ref 340] M v M' 0 0 := Ev.back 1 (fun n => rfl) H
    obtain ⟨b3, H⟩ := Ev.bal rfl rfl hS.1 qa_340 qw_57 (Or.inr rfl) H
    have H : Ev none (e1 + 1) 124 15 [some (.ref 0), some (.int k)] [.int (rI M 340 k)] M v M' 0 0 := H
    have H : Ev none (e1 + 1) 124 (if (rI M 340 k) = 0 then 18 else 20) [some (.ref 0), some (.int k)] [] M v M' 0 0 := Ev.back 1 (fun n => rfl) H
    by_cases h4 : (rI M 340 k) = 0
    · rw [if_pos h4] at H
      have H : Ev none (e1 + 1) 124 19 [some (.ref 0), some (.int k)] [.int 0] M v M' 0 0 := Ev.back 1 (fun n => rfl) H
      obtain ⟨z1, z2⟩ := Ev.retz rfl rfl H
      exact Or.inr (Or.inl ⟨h2, h4, b3, z1, z2⟩)
    · rw [if_neg h4] at H
      have H : Ev none (e1 + 1) 124 21 [some (.ref 0), some (.int k)] [.ref 0] M v M' 0 0 := Ev.back 1 (fun n => rfl) H
      have H : Ev none (e1 + 1) 124 24 [some (.ref 0), some (.int k)] [.ref (fR M 0 2)] M v M' 0 0 := Ev.back 1 (gs_3 rfl rfl (gf_r hS.1 qa_0 qr_0_2 rfl)) H
      rw [hLd] at H
      have H : Ev none (e1 + 1) 124 25 [some (.ref 0), some (.int k)] [.ref 0, .ref 8] M v M' 0 0 := Ev.back 1 (fun n => rfl) H
      have H : Ev none (e1 + 1) 124 28 [some (.ref 0), some (.int k)] [.ref 339, .ref 8] M v M' 0 0 := Ev.back 1 (gs_3 rfl rfl (gf_u hS.1 qa_0 qr_0_7 qu_56 rfl)) H
      have H : Ev none (e1 + 1) 124 29 [some (.ref 0), some (.int k)] [.int k, .ref 339, .ref 8] M v M' 0 0 := Ev.back 1 (fun n => rfl) H
      obtain ⟨b5, H⟩ := Ev.aal rfl rfl hS.1 qa_339 qz_56 H
      have H : Ev none (e1 + 1) 124 30 [some (.ref 0), some (.int k)] [.ref (oI M 339 k), .ref 8] M v M' 0 0 := H
      obtain ⟨vK6, MK6, K6, H⟩ := Ev.callb (fun n_ => gs_7 rfl rfl (show gCal (.invokevirtual 390) 10 (.ref (oI M 339 k) :: .ref 8 :: []) M = some (.inr (13, [some (.ref 8), some (.ref (oI M 339 k)), none], [])) from by show @cond (Option ((List Value × Mem) ⊕ (Nat × Lo × List Value))) (true && gRecv M (.ref 8) 1 && gRoom [] && true) (some (.inr (13, [some (.ref 8), some (.ref (oI M 339 k)), none], []))) none = _; rw [recv_s hS.1 qa_8 qo_8]; rfl)) H
      have K6 : Ev none e1 13 0 [some (.ref 8), some (.ref (oI M 339 k)), none] [] M vK6 MK6 0 0 := K6
      have HF := H
      exact Or.inr (Or.inr (⟨h2, h4, b3, b5.1, ⟨e1, vK6, MK6, rfl, K6, HF⟩⟩))
theorem rst_33 {e : Nat} {M M' : Mem} {v : Option Value} {k : Int32} (hS : SQ M) (H : Ev none e 124 33 [some (.ref 0), some (.int k)] [] M v M' 0 0) : v = some (.int 1) ∧ M' = M := by
  have H : Ev none e 124 34 [some (.ref 0), some (.int k)] [.int 1] M v M' 0 0 := Ev.back 1 (fun n => rfl) H
  obtain ⟨z1, z2⟩ := Ev.retz rfl rfl H
  exact ⟨z1, z2⟩
theorem opc_0 {e : Nat} {M M' : Mem} {v : Option Value} (hS : SQ M) (hLd : fR M 0 2 = 8) (hTr : fR M 0 6 = 243) (H : Ev none e 133 0 [some (.ref 0)] [] M v M' 0 0) : (∃ e1 v1 M1, e = e1 + 1 ∧ Ev none e1 13 0 [some (.ref 243), some (.ref 8), none] [] M v1 M1 0 0 ∧ Ev none e 133 11 [some (.ref 0)] (v1.toList ++ []) M1 v M' 0 0) := by
  have H : Ev none e 133 1 [some (.ref 0)] [.ref 0] M v M' 0 0 := Ev.back 1 (fun n => rfl) H
  have H : Ev none e 133 4 [some (.ref 0)] [.ref (fR M 0 6)] M v M' 0 0 := Ev.back 1 (gs_3 rfl rfl (gf_r hS.1 qa_0 qr_0_6 rfl)) H
  rw [hTr] at H
  have H : Ev none e 133 5 [some (.ref 0)] [.ref 0, .ref 243] M v M' 0 0 := Ev.back 1 (fun n => rfl) H
  have H : Ev none e 133 8 [some (.ref 0)] [.ref (fR M 0 2), .ref 243] M v M' 0 0 := Ev.back 1 (gs_3 rfl rfl (gf_r hS.1 qa_0 qr_0_2 rfl)) H
  rw [hLd] at H
  obtain ⟨e1, rfl⟩ := Ev.dpos rfl rfl H
  obtain ⟨vK1, MK1, K1, H⟩ := Ev.callb (fun n_ => gs_7 rfl rfl (show gCal (.invokevirtual 390) 10 (.ref 8 :: .ref 243 :: []) M = some (.inr (13, [some (.ref 243), some (.ref 8), none], [])) from by show @cond (Option ((List Value × Mem) ⊕ (Nat × Lo × List Value))) (true && gRecv M (.ref 243) 1 && gRoom [] && true) (some (.inr (13, [some (.ref 243), some (.ref 8), none], []))) none = _; rw [recv_s hS.1 qa_243 qo_8]; rfl)) H
  have K1 : Ev none e1 13 0 [some (.ref 243), some (.ref 8), none] [] M vK1 MK1 0 0 := K1
  have HF := H
  exact ⟨e1, vK1, MK1, rfl, K1, HF⟩
theorem opc_11 {e : Nat} {M M' : Mem} {v : Option Value} (hS : SQ M) (hLd : fR M 0 2 = 8) (hTr : fR M 0 6 = 243) (H : Ev none e 133 11 [some (.ref 0)] [] M v M' 0 0) : (∃ e1 v1 M1, e = e1 + 1 ∧ Ev none e1 54 0 [some (.ref 104), some (.ref 243)] [] M v1 M1 0 0 ∧ Ev none e 133 22 [some (.ref 0)] (v1.toList ++ []) M1 v M' 0 0) := by
  have H : Ev none e 133 12 [some (.ref 0)] [.ref 0] M v M' 0 0 := Ev.back 1 (fun n => rfl) H
  have H : Ev none e 133 15 [some (.ref 0)] [.ref 104] M v M' 0 0 := Ev.back 1 (gs_3 rfl rfl (gf_u hS.1 qa_0 qr_0_3 qu_22 rfl)) H
  have H : Ev none e 133 16 [some (.ref 0)] [.ref 0, .ref 104] M v M' 0 0 := Ev.back 1 (fun n => rfl) H
  have H : Ev none e 133 19 [some (.ref 0)] [.ref (fR M 0 6), .ref 104] M v M' 0 0 := Ev.back 1 (gs_3 rfl rfl (gf_r hS.1 qa_0 qr_0_6 rfl)) H
  rw [hTr] at H
  obtain ⟨e1, rfl⟩ := Ev.dpos rfl rfl H
  obtain ⟨vK1, MK1, K1, H⟩ := Ev.callb (fun n_ => gs_7 rfl rfl (show gCal (.invokevirtual 197) 10 (.ref 243 :: .ref 104 :: []) M = some (.inr (54, [some (.ref 104), some (.ref 243)], [])) from by show @cond (Option ((List Value × Mem) ⊕ (Nat × Lo × List Value))) (true && gRecv M (.ref 104) 7 && gRoom [] && true) (some (.inr (54, [some (.ref 104), some (.ref 243)], []))) none = _; rw [recv_s hS.1 qa_104 qo_22]; rfl)) H
  have K1 : Ev none e1 54 0 [some (.ref 104), some (.ref 243)] [] M vK1 MK1 0 0 := K1
  have HF := H
  exact ⟨e1, vK1, MK1, rfl, K1, HF⟩
theorem opc_22 {e : Nat} {M M' : Mem} {v : Option Value} (hS : SQ M) (H : Ev none e 133 22 [some (.ref 0)] [] M v M' 0 0) : v = none ∧ M' = M := by
  obtain ⟨z1, z2⟩ := Ev.retb (fun n => rfl) H
  exact ⟨z1, z2⟩
/-! THE CLASS'S state between calls -/
def imgA (k : Nat) : Nat := 345 + 96 * k
def GFX (M : Mem) : Prop := fR M 0 2 = 8 ∧ fR M 0 6 = 243 ∧ ∀ k, k < 3 → oN M 339 k = imgA k
def okA (P : PK) : Prop := okD P ∧ okK P ∧ (0 ≤ (P 518).toInt ∧ (P 518).toInt ≤ 60000) ∧ okE (60 * (P 518).toInt.toNat) P
def CST (T : TS) (P : PK) (PI : Nat → PK) (M : Mem) : Prop := SQ M ∧ GFX M ∧ TXc T M ∧ SXc M ∧ GRI M ∧ (∀ L, gNth sT L = some 8 → WXr L M ∧ WKs L M) ∧ (okA P ∧ LAN 8 P M) ∧ ∀ k, k < 3 → ¬ rN M 340 k = 0 → okA (PI k) ∧ LAN (imgA k) (PI k) M
theorem lnd_8 : gNth sT 8 = some 8 := by decide +kernel
theorem lnd_tr : gNth sT 243 = some 8 := by decide +kernel
theorem lnd_im : ∀ k, k < 3 → gNth sT (imgA k) = some 8 := by decide +kernel
section CCAL
variable {e B L : Nat} {T : TS} {P P' Q : PK} {PI : Nat → PK} {M M1 M' : Mem} {v : Option Value} {c k d x a b h ev fi t : Int32} {n i j : Nat} {F : Nat → Nat → Prop} {W O : Nat → Prop}
theorem okA.n24 (h : okA P) : (P 12).toInt ≤ 24 := h.1.2.2.2.1
theorem okA.k60 (h : okA P) : (P 157).toInt ≤ 60 := h.2.1.2.1
theorem TXc.fz (h : TXc T M) (hS : SH M) (hF : FZ F W O M M') (f2 : ¬ F 104 2) (ft : ∀ t, gNth sT t = some 28 → (∀ k, ¬ F t k) ∧ ∀ k, 1 ≤ k → k ≤ 8 → ¬ W (t + k)) (o : ¬ O 109) : TXc T M' := by
  obtain ⟨⟨t1, t2⟩, t3⟩ := h
  have e2 : fR M' 104 2 = fR M 104 2 := hF.fr f2
  refine ⟨⟨?_, t2⟩, fun h hh => ?_⟩
  · have q := ft _ (law_t hS)
    rw [e2]
    exact t1.fz hF q.1 q.2
  · have q := ft _ (hab_t hS hh)
    rw [hF.on o]
    exact ⟨(t3 h hh).1.fz hF q.1 q.2, (t3 h hh).2⟩
/-- what leaves the whole state alone -/
theorem CST.scr (h : CST T P PI M) (hS : SQ M') (hF : FZ F W O M M') (f0 : ¬ F 0 2 ∧ ¬ F 0 6 ∧ ¬ F 104 2) (fl : ∀ L, gNth sT L = some 8 → ¬ L = 243 → (∀ a k, L ≤ a → a < L + 96 → ¬ F a k) ∧ ∀ a, L + 1 ≤ a → a ≤ L + 9 → ¬ W a) (ft : ∀ t, gNth sT t = some 28 → (∀ k, ¬ F t k) ∧ ∀ k, 1 ≤ k → k ≤ 8 → ¬ W (t + k)) (o : ¬ O 109 ∧ ¬ O 129 ∧ ¬ O 339) (ol : ∀ L, gNth sT L = some 8 → ¬ L = 243 → ¬ O (L + 11)) (hX : ∀ L, gNth sT L = some 8 → WXr L M' ∧ WKs L M') (hG : GRI M') (w : ¬ W 340) : CST T P PI M' := by
  obtain ⟨a1, ⟨a2, a3, a4⟩, a5, a6, a7, a8, ⟨a9, a10⟩, a11⟩ := h
  have n8 : ¬ (8 : Nat) = 243 := by decide
  refine ⟨hS, ⟨(hF.fr f0.1).trans a2, (hF.fr f0.2.1).trans a3, fun k hk => (hF.on o.2.2).trans (a4 k hk)⟩, a5.fz a1.1 hF f0.2.2 ft o.1, fun m hm => (hF.on o.2.1).trans (a6 m hm), hG, hX, ⟨a9, a10.fz hF (fl 8 lnd_8 n8).1 (fl 8 lnd_8 n8).2 (ol 8 lnd_8 n8) (a8 8 lnd_8).2 a9.n24 a9.k60⟩, fun k hk hr => ?_⟩
  have er : rN M' 340 k = rN M 340 k := hF.rn w
  rw [er] at hr
  obtain ⟨b1, b2⟩ := a11 k hk hr
  have hi := lnd_im k hk
  have ni : ¬ imgA k = 243 := by unfold imgA; omega
  exact ⟨b1, b2.fz hF (fl _ hi ni).1 (fl _ hi ni).2 (ol _ hi ni) (a8 _ hi).2 b1.n24 b1.k60⟩
/-- a change of the live land -/
theorem CST.live (h : CST T P PI M) (hS : SQ M') (hF : FZ (cpF 8) (cpW 8) noO M M') (ok : okA Q) (hA : LAN 8 Q M') : CST T Q PI M' := by
  obtain ⟨a1, ⟨a2, a3, a4⟩, a5, a6, a7, a8, ⟨a9, a10⟩, a11⟩ := h
  refine ⟨hS, ⟨(hF.fr (by unfold cpF; omega)).trans a2, (hF.fr (by unfold cpF; omega)).trans a3, fun k hk => (hF.on (fun q => q)).trans (a4 k hk)⟩, a5.fz a1.1 hF (by unfold cpF; omega) (fun t ht => ?_) (fun q => q), fun m hm => (hF.on (fun q => q)).trans (a6 m hm), a7.fz hF (by unfold cpF; omega) (by unfold cpF; omega) (fun a _ _ => by unfold cpW; omega), fun L hL => ⟨fun k hk => (hF.on (fun q => q)).trans ((a8 L hL).1 k hk), (a8 L hL).2.on (fun j => hF.on (fun q => q))⟩, ⟨ok, hA⟩, fun k hk hr => ?_⟩
  · have := tx_cases ht
    exact ⟨fun k => by unfold cpF; omega, fun k k1 k8 => by unfold cpW; omega⟩
  · have er : rN M' 340 k = rN M 340 k := hF.rn (by unfold cpW; omega)
    rw [er] at hr
    obtain ⟨b1, b2⟩ := a11 k hk hr
    have hi := lnd_im k hk
    exact ⟨b1, b2.fz hF (fun a k q1 q2 => by unfold imgA at q1; unfold cpF; omega) (fun a q1 q2 => by unfold imgA at q1; unfold cpW; omega) (fun q => q) (a8 _ hi).2 b1.n24 b1.k60⟩
theorem g7L (hC : LCel L P M) (hc : inC P c) : G_7 M L c = bI (opnB P c) := by
  have e : rI M (L + 1) c = cE P 0 c := hC.at hc (f := 0) (by decide)
  unfold G_7 opnB
  rw [e]
  by_cases h3 : cE P 0 c = 3
  · rw [if_pos h3, decide_eq_true h3]; rfl
  · rw [if_neg h3, decide_eq_false h3]
    by_cases h6 : cE P 0 c = 6
    · rw [if_pos h6, decide_eq_true h6]; rfl
    · rw [if_neg h6, decide_eq_false h6]; rfl
theorem g126_R {lo hi : Int32} : G_126 M x lo hi = 0 ↔ ¬ inX x lo hi := by
  unfold G_126 inX
  by_cases h1 : x < lo
  · rw [if_pos h1]
    exact ⟨fun _ r => by have := Int32.lt_iff_toInt_lt.mp h1; omega, fun _ => rfl⟩
  · rw [if_neg h1]
    by_cases h2 : hi < x
    · rw [if_pos h2]
      exact ⟨fun _ r => by have := Int32.lt_iff_toInt_lt.mp h2; omega, fun _ => rfl⟩
    · rw [if_neg h2]
      have n1 : ¬ x.toInt < lo.toInt := fun q => h1 (Int32.lt_iff_toInt_lt.mpr q)
      have n2 : ¬ hi.toInt < x.toInt := fun q => h2 (Int32.lt_iff_toInt_lt.mpr q)
      exact ⟨fun q => absurd q (by decide), fun q => absurd ⟨by omega, by omega⟩ q⟩
theorem isc_ok (hA : LAN 8 P M) (hw : wh4 P) : G_126 M c 0 (G_6 M 8 - 1) = 0 ↔ ¬ inC P c := by
  obtain ⟨_, c256, c16⟩ := cls_int hw
  have hg := g6_ok hw hA.1.1 hA.1.2.1
  have e1 : (G_6 M 8 - 1).toInt = (clsP P : Int) - 1 := by rw [i32_m1 (by omega)]; omega
  rw [g126_R]
  unfold inX inC
  have t0 : (0 : Int32).toInt = 0 := rfl
  rw [e1, t0]
  constructor
  · exact fun q r => q ⟨r.1, by omega⟩
  · exact fun q r => q ⟨r.1, by omega⟩
theorem hsd_l (hS : SQ M) (hL : gNth sT L = some 8) (hA : LAN L P M) (n9 : (P 2).toInt ≤ 9) : ∀ (n k : Nat) (kz : Int32), kz.toInt = (k : Int) → (k : Int) + (n : Int) = (P 2).toInt → Ev none e 9 2 [some (.ref L), some (.int c), some (.int kz)] [] M v M' 0 0 → M' = M ∧ v = some (.int (bI (hdP P c n k))) := by
  have e2 : zI M L 11 = P 2 := hA.1.2.2.1.1
  intro n
  induction n with
  | zero =>
    intro k kz hk hn H
    rcases hsd_2 hS hL H with ⟨_, r1, r2⟩ | ⟨a1, _⟩ | ⟨a1, _⟩
    · exact ⟨r2, r1⟩
    all_goals exact absurd (Int32.le_iff_toInt_le.mpr (by rw [e2]; omega)) a1
  | succ n ih =>
    intro k kz hk hn H
    have er : rI M (L + 9) kz = P (3 + k) := (rI_n hk).trans (hA.1.2.2.1.2 k (by omega))
    unfold hdP
    rcases hsd_2 hS hL H with ⟨a1, _⟩ | ⟨_, a2, _, r1, r2⟩ | ⟨_, a2, _, H⟩
    · have := Int32.le_iff_toInt_le.mp a1
      rw [e2] at this
      omega
    · rw [er] at a2
      rw [if_pos a2]
      exact ⟨r2, r1⟩
    · rw [er] at a2
      rw [if_neg a2]
      exact ih (k + 1) (kz + 1) (by rw [i32_p1 (by omega)]; omega) (by omega) H
theorem hsd_ok (hS : SQ M) (hL : gNth sT L = some 8) (hA : LAN L P M) (hD : okD P) (H : Ev none e 9 0 [some (.ref L), some (.int c), none] [] M v M' 0 0) : M' = M ∧ v = some (.int (bI (hasP P c))) := hsd_l hS hL hA hD.2.1.2.1 (P 2).toInt.toNat 0 0 rfl (by have := hD.2.1.1; omega) (hsd_0 hS hL H)
theorem okA.lo (h : okA P) (hD : okD Q) (hK : okK Q) (h0 : Q 0 = P 0) (h1 : Q 1 = P 1) (hs : ∀ j, 518 ≤ j → Q j = P j) : okA Q := by
  obtain ⟨a1, a2, a3, a4⟩ := h
  have e := hs 518 (by decide)
  refine ⟨hD, hK, by rw [e]; exact a3, ?_⟩
  rw [e]
  exact a4.sb h0 h1 (fun j hj => hs j (by omega))
/-- a land: what changed is told -/
theorem LAN.lo (hA : LAN L P M) (hF : FZ F W O M M') (h0 : Q 0 = P 0) (h1 : Q 1 = P 1) (hs : ∀ j, 157 ≤ j → Q j = P j) (fp : ∀ a k, L ≤ a → a < L + 96 → F a k → (a = L ∧ (k = 11 ∨ k = 13)) ∨ (L + 12 ≤ a ∧ a < L + 36)) (fw : ∀ a, W a → a = L + 9 ∨ a < L + 1 ∨ L + 9 < a) (o0 : ¬ O (L + 11)) (hk : WKs L M) (k60 : (P 157).toInt ≤ 60) (hd : zI M' L 11 = Q 2 ∧ ∀ d, d < (Q 2).toInt.toNat → rN M' (L + 9) d = Q (3 + d)) (hw : zI M' L 13 = Q 12 ∧ ∀ k, k < (Q 12).toInt.toNat → ∀ f, f < 6 → zI M' (L + 12 + k) f = Q (13 + 6 * k + f)) : LAN L Q M' := by
  obtain ⟨⟨a0, a1, _, _, _⟩, ⟨b1, b2, b3, b4⟩, hC, ⟨l1, l2⟩, hcr⟩ := hA
  have zL : ∀ k, k ≠ 11 → k ≠ 13 → zI M' L k = zI M L k := fun k n1 n3 => hF.fi (fun q => by have := fp L k (by omega) (by omega) q; omega)
  have rr : ∀ f, 1 ≤ f → f ≤ 8 → ∀ j, rN M' (L + f) j = rN M (L + f) j := fun f f1 f8 j => hF.rn (fun q => by have := fw _ q; omega)
  have e157 := hs 157 (by decide)
  refine ⟨⟨(zL 0 (by decide) (by decide)).trans (a0.trans h0.symm), (zL 1 (by decide) (by decide)).trans (a1.trans h1.symm), hd, hw.1, hw.2⟩, ⟨(zL 16 (by decide) (by decide)).trans (b1.trans (hs _ (by decide)).symm), (zL 17 (by decide) (by decide)).trans (b2.trans (hs _ (by decide)).symm), (zL 18 (by decide) (by decide)).trans (b3.trans (hs _ (by decide)).symm), (zL 19 (by decide) (by decide)).trans (b4.trans (hs _ (by decide)).symm)⟩, fun k f hk hf => ?_, ⟨(zL 15 (by decide) (by decide)).trans (l1.trans e157.symm), fun k hkk => ?_⟩, fun c hc => ?_⟩
  · rw [cls_eq h0 h1] at hk
    have q := rr (1 + f) (by omega) (by omega) k
    rw [← Nat.add_assoc] at q
    exact q.trans ((hC k f hk hf).trans (hs _ (by omega)).symm)
  · rw [e157] at hkk
    have bq := hk.2 k (by omega)
    rw [hF.on o0]
    exact (l2 k hkk).eq (fun f _ => hF.fi (fun q => by have := fp _ _ (by omega) (by omega) q; omega)) (fun j hj => hs _ (by omega))
  · rw [inC.eq h0 h1] at hc
    have q : rI M' (L + 8) c = rI M (L + 8) c := rr 8 (by decide) (by decide) _
    rw [q, e157, hcr c hc]
    exact (crd_congr _ (fun k hk => hs _ (by omega))).symm
end CCAL
/-! THE CLASS'S door, wish, drop, snow -/
section CDOR
variable {e B L : Nat} {T : TS} {P P' Q : PK} {PI : Nat → PK} {M M1 M' : Mem} {v : Option Value} {c k d x a b h ev fi t : Int32} {n i j : Nat}
theorem CST.sq (h : CST T P PI M) : SQ M := h.1
theorem CST.ld (h : CST T P PI M) : fR M 0 2 = 8 := h.2.1.1
theorem CST.ok (h : CST T P PI M) : okA P := h.2.2.2.2.2.2.1.1
theorem CST.lan (h : CST T P PI M) : LAN 8 P M := h.2.2.2.2.2.2.1.2
theorem CST.wx (h : CST T P PI M) : WXr 8 M := (h.2.2.2.2.2.1 8 lnd_8).1
theorem CST.wk (h : CST T P PI M) : WKs 8 M := (h.2.2.2.2.2.1 8 lnd_8).2
theorem door_ok (h : CST T P PI M) (H : Ev none e 84 0 [some (.ref 0), some (.int c)] [] M v M' 0 0) : (dorN P c ∧ v = some (.int (-1)) ∧ M' = M) ∨ (¬ dorN P c ∧ v = some (.int (P 2)) ∧ CST T (dorP P c) PI M') := by
  have hS := h.sq
  have hA := h.lan
  have hD := h.ok.1
  have hw := hD.1
  have z11 : zI M 8 11 = P 2 := hA.1.2.2.1.1
  unfold dorN
  rcases dor_0 hS h.ld H with ⟨a1, r1, r2⟩ | ⟨a1, e1, v1, M1, _, H1, H⟩
  · rw [z11] at a1
    exact Or.inl ⟨Or.inl a1, r1, r2⟩
  · rw [z11] at a1
    obtain ⟨rv, rm⟩ := isc_0 hS h.ld H1
    rw [rv, rm] at H
    rcases dor_17 hS h.ld H with ⟨a2, q1, q2⟩ | ⟨a2, a3, q1, q2⟩ | ⟨a2, a3, e2, v2, M2, _, H2, H⟩
    · rw [isc_ok hA hw] at a2
      exact Or.inl ⟨Or.inr (Or.inl a2), q1, q2⟩
    · rw [isc_ok hA hw, Classical.not_not] at a2
      rw [g7L hA.2.2.1 a2, bI_0] at a3
      exact Or.inl ⟨Or.inr (Or.inr (Or.inl a3)), q1, q2⟩
    · rw [isc_ok hA hw, Classical.not_not] at a2
      rw [g7L hA.2.2.1 a2, bI_0] at a3
      obtain ⟨rm2, rv2⟩ := hsd_ok hS lnd_8 hA hD H2
      rw [rv2, rm2] at H
      rcases dor_39 hS h.ld H with ⟨a4, _, q1, q2⟩ | ⟨a4, q1, q2⟩
      · rw [bI_0] at a4
        rw [z11] at q1 q2
        obtain ⟨b1, b2, b3, b4⟩ := hD.dor a1 a2
        have b0 := hD.2.1.1
        have b9 := hD.2.1.2.1
        have t9 : (9 : Int32).toInt = 9 := rfl
        have n9 : (P 2).toInt ≠ 9 := fun q => a1 (Int32.toInt_inj.mp (q.trans t9.symm))
        obtain ⟨m, em⟩ : ∃ m, m = (P 2).toInt.toNat := ⟨_, rfl⟩
        have ix : (P 2).toNatClampNeg = m := cl_n (by omega)
        rw [ix] at q2
        have hF : FZ (fun a k => a = 8 ∧ k = 11) (fun a => a = 17) noO M M' := by
          rw [q2]
          exact (FZ.wI (F := fun a k => a = 8 ∧ k = 11) (W := fun a => a = 17) rfl).trans (FZ.wF ⟨rfl, rfl⟩)
        have S' : SQ M' := by rw [q2]; exact hS.ki.kf
        have d2 : dorP P c 2 = P 2 + 1 := up_eq
        have d2i : (dorP P c 2).toInt = (P 2).toInt + 1 := by rw [d2]; exact i32_p1 (by omega)
        refine Or.inr ⟨fun q => ?_, q1, h.live S' (hF.more (fun a k q => by unfold cpF; omega) (fun a q => by unfold cpW; omega) (fun _ q => q)) (h.ok.lo b1 (h.ok.2.1.wis b3 b4 (by rw [b2 12 (by decide)]; omega) (fun j hj => b2 j (by omega))) b3 b4 (fun j hj => b2 j (by omega))) (hA.lo hF b3 b4 (fun j hj => b2 j (by omega)) (fun a k _ _ q => Or.inl ⟨q.1, Or.inl q.2⟩) (fun a q => Or.inl q) (fun q => q) h.wk h.ok.k60 ⟨?_, fun d hd => ?_⟩ ⟨?_, fun k hk f hf => ?_⟩)⟩
        · rcases q with q | q | q | q
          · exact a1 q
          · exact q a2
          · exact a3 q
          · rw [a4] at q; cases q
        · rw [d2, q2]
          exact fI_wF_eq hS.ki.1 lnd_8 qi_8_11
        · rw [q2, rN_wF]
          unfold dorP
          rw [← em, up_ne (by omega)]
          by_cases hdm : d = m
          · rw [hdm, up_eq]
            exact rN_wI_eq (by rw [(hS.1.row (fx_h10 lnd_8) qw_17).2]; omega)
          · rw [up_ne (by omega), rN_wI_ne (by omega)]
            exact hA.1.2.2.1.2 d (by omega)
        · rw [b2 12 (by decide), hF.fi (by omega)]
          exact hA.1.2.2.2.1
        · rw [b2 12 (by decide)] at hk
          rw [b2 _ (by omega), hF.fi (by omega)]
          exact hA.1.2.2.2.2 k hk f hf
      · rw [bI_0, Bool.not_eq_false] at a4
        exact Or.inl ⟨Or.inr (Or.inr (Or.inr a4)), q1, q2⟩
theorem wx_oI (hx : WXr L M) {kz : Int32} (h0 : 0 ≤ kz.toInt) (h1 : kz.toInt < 24) : oI M (L + 10) kz = L + 12 + kz.toInt.toNat := by
  unfold oI
  rw [cl_n (kn := kz.toInt.toNat) (by omega)]
  exact hx _ (by omega)
theorem isw_ok (h : CST T P PI M) (H : Ev none e 130 0 [some (.ref 0), some (.int k)] [] M v M' 0 0) : M' = M ∧ ((isW P k ∧ v = some (.int 1)) ∨ (¬ isW P k ∧ v = some (.int 0))) := by
  have hS := h.sq
  have hA := h.lan
  have hD := h.ok.1
  have z13 : zI M 8 13 = P 12 := hA.1.2.2.2.1
  have b0 := hD.2.2.1
  have b24 := hD.2.2.2.1
  have e1 : (P 12 - 1).toInt = (P 12).toInt - 1 := i32_m1 (by omega)
  have t0 : (0 : Int32).toInt = 0 := rfl
  unfold isW
  rcases isw_0 hS h.ld H with ⟨a1, r1, r2⟩ | ⟨a1, a2, _, r1, r2⟩ | ⟨a1, a2, _, r1, r2⟩
  · rw [z13, g126_R] at a1
    unfold inX at a1
    rw [e1, t0] at a1
    exact ⟨r2, Or.inr ⟨fun q => a1 ⟨q.1.1, by omega⟩, r1⟩⟩
  · rw [z13, g126_R, Classical.not_not] at a1
    unfold inX at a1
    rw [e1, t0] at a1
    rw [wx_oI h.wx (by omega) (by omega), hA.1.2.2.2.2 _ (by omega) 5 (by decide)] at a2
    exact ⟨r2, Or.inr ⟨fun q => by rw [q.2] at a2; exact absurd a2 (by decide), r1⟩⟩
  · rw [z13, g126_R, Classical.not_not] at a1
    unfold inX at a1
    rw [e1, t0] at a1
    rw [wx_oI h.wx (by omega) (by omega), hA.1.2.2.2.2 _ (by omega) 5 (by decide)] at a2
    rcases (hD.2.2.2.2 k.toInt.toNat (by omega)).2.2.2.2 with q | q
    · exact absurd q a2
    · exact ⟨r2, Or.inl ⟨⟨⟨by omega, by omega⟩, q⟩, r1⟩⟩
theorem wi_t' (hS : SH M) (hx : WXr 8 M) {k : Nat} (hk : k < 24) : gNth sT (8 + 12 + k) = some 20 := wi_t hS lnd_8 hx hk
theorem drop_ok (h : CST T P PI M) (H : Ev none e 90 0 [some (.ref 0), some (.int k)] [] M v M' 0 0) : (¬ isW P k ∧ v = some (.int 0) ∧ M' = M) ∨ (isW P k ∧ v = some (.int 1) ∧ CST T (drpP P k) PI M') := by
  have hS := h.sq
  have hA := h.lan
  have hD := h.ok.1
  obtain ⟨e1, v1, M1, _, H1, H⟩ := drp_0 hS h.ld H
  obtain ⟨rm, rv⟩ := isw_ok h H1
  rw [rm] at H
  rcases rv with ⟨hW, rv⟩ | ⟨hW, rv⟩
  · rw [rv] at H
    rcases drp_5 hS h.ld H with ⟨a1, _⟩ | ⟨_, _, r1, r2⟩
    · exact absurd a1 (by decide)
    · obtain ⟨m, em⟩ : ∃ m, m = k.toInt.toNat := ⟨_, rfl⟩
      have w1 := hW.1
      have b24 := hD.2.2.2.1
      rw [wx_oI h.wx (by omega) (by omega), ← em] at r2
      obtain ⟨b1, b2⟩ := hD.drp (k := k) w1
      rw [← em] at b2
      have hF : FZ (fun a f => a = 8 + 12 + m ∧ f = 5) noO noO M M' := by
        rw [r2]
        exact FZ.wF (F := fun a f => a = 8 + 12 + m ∧ f = 5) ⟨rfl, rfl⟩
      have S' : SQ M' := by rw [r2]; exact hS.kf
      have b3 := b2 0 (by omega)
      have b4 := b2 1 (by omega)
      refine Or.inr ⟨hW, r1, h.live S' (hF.more (fun a k q => by unfold cpF; omega) (fun a q => q.elim) (fun _ q => q)) (h.ok.lo b1 (h.ok.2.1.wis b3 b4 (by rw [b2 12 (by omega)]; omega) (fun j hj => b2 j (by omega))) b3 b4 (fun j hj => b2 j (by omega))) (hA.lo hF b3 b4 (fun j hj => b2 j (by omega)) (fun a k _ _ q => Or.inr (by omega)) (fun a q => q.elim) (fun q => q) h.wk h.ok.k60 ⟨?_, fun d hd => ?_⟩ ⟨?_, fun i hi f hf => ?_⟩)⟩
      · rw [b2 2 (by omega), hF.fi (by omega)]
        exact hA.1.2.2.1.1
      · rw [b2 2 (by omega)] at hd
        have := hD.2.1.2.1
        rw [b2 _ (by omega)]
        exact (hF.rn (fun q => q)).trans (hA.1.2.2.1.2 d hd)
      · rw [b2 12 (by omega), hF.fi (by omega)]
        exact hA.1.2.2.2.1
      · rw [b2 12 (by omega)] at hi
        by_cases hif : i = m ∧ f = 5
        · rw [hif.1, hif.2, r2]
          have e5 : drpP P k (13 + 6 * m + 5) = 0 := by rw [em]; exact up_eq
          rw [e5]
          exact fI_wF_eq hS.1 (wi_t' hS.1 h.wx (by omega)) qi_20_5
        · rw [b2 _ (by omega), hF.fi (by omega)]
          exact hA.1.2.2.2.2 i hi f hf
  · rw [rv] at H
    rcases drp_5 hS h.ld H with ⟨_, r1, r2⟩ | ⟨a1, _⟩
    · exact Or.inl ⟨hW, r1, r2⟩
    · exact absurd rfl a1
end CDOR
/-! THE CLASS'S rain, snow, lay, park, image, restore -/
section CRAI
variable {e B L : Nat} {T : TS} {P P' Q : PK} {PI : Nat → PK} {M M0 M1 M' : Mem} {v : Option Value} {c k d x a b t : Int32} {n i j : Nat} {F : Nat → Nat → Prop} {W O : Nat → Prop}
/-- a land whose cells alone change -/
theorem LAN.hi (hA : LAN L P M) (hF : FZ noF W noO M M') (hs : hiS P Q) (fw : ∀ a, W a → L + 1 ≤ a ∧ a ≤ L + 7) (hl : LCel L Q M') (hD : okD P) (k60 : (P 157).toInt ≤ 60) : LAN L Q M' := by
  have d9 := hD.2.1.2.1
  have d24 := hD.2.2.2.1
  obtain ⟨⟨a0, a1, ⟨a2, a3⟩, a4, a5⟩, ⟨b1, b2, b3, b4⟩, hC, ⟨l1, l2⟩, hcr⟩ := hA
  have zL : ∀ a k, zI M' a k = zI M a k := fun a k => hF.fi (fun q => q)
  have e157 := hs 157 (by decide)
  have e0 := hs 0 (by decide)
  have e1 := hs 1 (by decide)
  have w8 : ¬ W (L + 8) := fun q => by have := fw _ q; omega
  have w9 : ¬ W (L + 9) := fun q => by have := fw _ q; omega
  refine ⟨⟨(zL _ _).trans (a0.trans e0.symm), (zL _ _).trans (a1.trans e1.symm), ⟨(zL _ _).trans (a2.trans (hs 2 (by decide)).symm), fun d hd => ?_⟩, (zL _ _).trans (a4.trans (hs 12 (by decide)).symm), fun k hk f hf => ?_⟩, ⟨(zL _ _).trans (b1.trans (hs _ (by decide)).symm), (zL _ _).trans (b2.trans (hs _ (by decide)).symm), (zL _ _).trans (b3.trans (hs _ (by decide)).symm), (zL _ _).trans (b4.trans (hs _ (by decide)).symm)⟩, hl, ⟨(zL _ _).trans (l1.trans e157.symm), fun k hkk => ?_⟩, fun c hc => ?_⟩
  · rw [hs 2 (by decide)] at hd
    rw [hF.rn w9, a3 d hd]
    exact (hs _ (by omega)).symm
  · rw [hs 12 (by decide)] at hk
    rw [zL, a5 k hk f hf]
    exact (hs _ (by omega)).symm
  · rw [e157] at hkk
    rw [hF.on (fun q => q)]
    exact (l2 k hkk).eq (fun f _ => zL _ _) (fun j hj => hs _ (by omega))
  · rw [inC.eq e0 e1] at hc
    have q : rI M' (L + 8) c = rI M (L + 8) c := hF.rn w8
    rw [q, e157, hcr c hc]
    exact (crd_congr _ (fun k hk => hs _ (by omega))).symm
theorem okA.hi (h : okA P) (hs : hiS P Q) (hE : okE (60 * (P 518).toInt.toNat) Q) : okA Q := by
  obtain ⟨a1, a2, a3, a4⟩ := h
  have e := hs 518 (by decide)
  exact ⟨hs.D a1, hs.K a2, by rw [e]; exact a3, by rw [e]; exact hE⟩
theorem CST.hi (h : CST T P PI M) (hS : SQ M') (hF : FZ noF W noO M M') (fw : ∀ a, W a → 9 ≤ a ∧ a ≤ 15) (hs : hiS P Q) (hl : LCel 8 Q M') (hE : okE (60 * (P 518).toInt.toNat) Q) : CST T Q PI M' := h.live hS (hF.more (fun _ _ q => q.elim) (fun a q => by have := fw a q; unfold cpW; omega) (fun _ q => q)) (h.ok.hi hs hE) (h.lan.hi hF hs (fun a q => by have := fw a q; omega) hl h.ok.1 h.ok.k60)
theorem rai_l (hw : wh4 P) (hx : inX x 1 200) (M0 : Mem) : ∀ (n : Nat) (c : Int32) (Q : PK) (M : Mem) (c3 : Option Value), SQ M → fR M 0 2 = 8 → zI M 8 0 = P 0 → zI M 8 1 = P 1 → LCel 8 Q M → hiS P Q → okE B Q → FZ noF (fun a => a = 13) noO M0 M → 0 ≤ c.toInt → c.toInt + (n : Int) = (clsP P : Int) → Ev none e 93 15 [some (.ref 0), some (.int x), some (.int c), c3] [] M v M' 0 0 → v = some (.int 1) ∧ SQ M' ∧ LCel 8 (raiP x n c Q) M' ∧ hiS P (raiP x n c Q) ∧ okE B (raiP x n c Q) ∧ FZ noF (fun a => a = 13) noO M0 M' := by
  obtain ⟨_, c256, _⟩ := cls_int hw
  intro n
  induction n with
  | zero =>
    intro c Q M c3 hS hL z0 z1 hC hs hE hF hc hn H
    have hg := g6_ok hw z0 z1
    rcases rai_15 hS hL H with ⟨_, r1, r2⟩ | ⟨a1, _⟩ | ⟨a1, _⟩ | ⟨a1, _⟩ | ⟨a1, _⟩
    · exact ⟨r1, r2 ▸ hS, r2 ▸ hC, hs, hE, r2 ▸ hF⟩
    all_goals exact absurd (Int32.le_iff_toInt_le.mpr (by omega)) a1
  | succ n ih =>
    intro c Q M c3 hS hL z0 z1 hC hs hE hF hc hn H
    have hg := g6_ok hw z0 z1
    have hcP : inC P c := ⟨hc, by omega⟩
    have hcQ : inC Q c := (inC.hi hs).mpr hcP
    have hwQ : wh4 Q := hw.eq (hs 0 (by decide)) (hs 1 (by decide))
    have e1 : (c + 1).toInt = c.toInt + 1 := i32_p1 (by omega)
    have k0 : rI M (8 + 1) c = cE Q 0 c := hC.at hcQ (f := 0) (by decide)
    have k4 : rI M (8 + 5) c = cE Q 4 c := hC.at hcQ (f := 4) (by decide)
    obtain ⟨⟨u0, u6⟩, _⟩ := hE c hcQ
    have t3 : (3 : Int32).toInt = 3 := rfl
    have yes : cE Q 0 c < 3 → Ev none e 93 15 [some (.ref 0), some (.int x), some (.int (c + 1)), some (.int (rI M (8 + 1) c))] [] (wI M (8 + 5) c.toNatClampNeg (if rI M (8 + 5) c + x < 200 then rI M (8 + 5) c + x else 200)) v M' 0 0 → v = some (.int 1) ∧ SQ M' ∧ LCel 8 (raiP x (n + 1) c Q) M' ∧ hiS P (raiP x (n + 1) c Q) ∧ okE B (raiP x (n + 1) c Q) ∧ FZ noF (fun a => a = 13) noO M0 M' := fun h3 H => by
      rw [k4] at H
      have hr : ra1P Q x c = uPk Q (cX 4 c) (if cE Q 4 c + x < 200 then cE Q 4 c + x else 200) := by unfold ra1P; rw [if_pos h3]
      have hu : LCel 8 (ra1P Q x c) (wI M (8 + 5) c.toNatClampNeg (if cE Q 4 c + x < 200 then cE Q 4 c + x else 200)) := by
        rw [hr]
        exact hC.up hS lnd_8 hwQ hcQ (f := 4) (by decide)
      have hF' : FZ noF (fun a => a = 13) noO M (wI M (8 + 5) c.toNatClampNeg (if cE Q 4 c + x < 200 then cE Q 4 c + x else 200)) := FZ.wI rfl
      exact ih (c + 1) (ra1P Q x c) _ _ hS.ki ((hF'.fr (fun q => q)).trans hL) ((hF'.fi (fun q => q)).trans z0) ((hF'.fi (fun q => q)).trans z1) hu (fun j hj => (ra1_hi j hj).trans (hs j hj)) (hE.ra1 hcQ hx) (hF.trans hF') (by omega) (by omega) H
    have lt3 : ∀ y : Int32, y.toInt < 3 → cE Q 0 c = y → cE Q 0 c < 3 := fun y hy q => Int32.lt_iff_toInt_lt.mpr (by rw [q]; omega)
    rcases rai_15 hS hL H with ⟨a1, _⟩ | ⟨_, a2, _, _, _, H⟩ | ⟨_, _, a2, _, _, _, H⟩ | ⟨_, _, _, a2, _, _, _, H⟩ | ⟨_, a2, a3, a4, _, H⟩
    · have := Int32.le_iff_toInt_le.mp a1
      omega
    · rw [k0] at a2
      exact yes (lt3 0 (by decide) a2) H
    · rw [k0] at a2
      exact yes (lt3 2 (by decide) a2) H
    · rw [k0] at a2
      exact yes (lt3 1 (by decide) a2) H
    · rw [k0] at a2 a3 a4
      have n3 : ¬ cE Q 0 c < 3 := fun q => by
        have q := Int32.lt_iff_toInt_lt.mp q
        have i0 : (0 : Int32).toInt = 0 := rfl
        have i1 : (1 : Int32).toInt = 1 := rfl
        have i2 : (2 : Int32).toInt = 2 := rfl
        have m0 : (cE Q 0 c).toInt ≠ 0 := fun r => a2 (Int32.toInt_inj.mp (r.trans i0.symm))
        have m1 : (cE Q 0 c).toInt ≠ 1 := fun r => a4 (Int32.toInt_inj.mp (r.trans i1.symm))
        have m2 : (cE Q 0 c).toInt ≠ 2 := fun r => a3 (Int32.toInt_inj.mp (r.trans i2.symm))
        omega
      have hr : ra1P Q x c = Q := by unfold ra1P; rw [if_neg n3]
      have q := ih (c + 1) Q M _ hS hL z0 z1 hC hs hE hF (by omega) (by omega) H
      have hun : raiP x (n + 1) c Q = raiP x n (c + 1) Q := by
        show raiP x n (c + 1) (ra1P Q x c) = _
        rw [hr]
      rw [hun]
      exact q
theorem rain_ok (h : CST T P PI M) (H : Ev none e 93 0 [some (.ref 0), some (.int x), none, none] [] M v M' 0 0) : (¬ inX x 1 200 ∧ v = some (.int 0) ∧ M' = M) ∨ (inX x 1 200 ∧ v = some (.int 1) ∧ CST T (raiP x (clsP P) 0 P) PI M') := by
  have hA := h.lan
  rcases rai_0 h.sq h.ld H with ⟨a1, r1, r2⟩ | ⟨a1, H⟩
  · rw [g126_R] at a1
    exact Or.inl ⟨a1, r1, r2⟩
  · rw [g126_R, Classical.not_not] at a1
    have t0 : (0 : Int32).toInt = 0 := rfl
    obtain ⟨r1, r2, r3, r4, r5, r6⟩ := rai_l h.ok.1.1 a1 M (clsP P) 0 P M none h.sq h.ld hA.1.1 hA.1.2.1 hA.2.2.1 (fun _ _ => rfl) h.ok.2.2.2 (FZ.refl _) (by decide) (by omega) H
    exact Or.inr ⟨a1, r1, h.hi r2 r6 (fun a q => by omega) r4 r3 r5⟩
theorem okE.zer {f : Nat} (hf : f = 5 ∨ f = 6) (hw : wh4 P) (hE : okE B P) : okE B (zerP f (clsP P) 0 P) := fun c hc => by
  obtain ⟨_, c256, _⟩ := cls_int hw
  have t0 : (0 : Int32).toInt = 0 := rfl
  obtain ⟨zE, zL⟩ := zer_E (f := f) (by omega) (clsP P) 0 P (by decide) (by omega)
  have hs : hiS P (zerP f (clsP P) 0 P) := zL
  have hc := (inC.hi hs).mp hc
  obtain ⟨a1, a2, a3, a4, a5, a6, a7⟩ := hE c hc
  unfold okC1
  rw [zE 0 c (by decide) hc.1, zE 2 c (by decide) hc.1, zE 3 c (by decide) hc.1, zE 4 c (by decide) hc.1, zE 5 c (by decide) hc.1, zE 6 c (by decide) hc.1, if_neg (fun q => by omega), if_neg (fun q => by omega), if_neg (fun q => by omega), if_neg (fun q => by omega)]
  refine ⟨a1, a2, a3, a4, ?_, ?_⟩
  · split
    · rw [t0]; omega
    · exact a5
  · split
    · rw [t0]; omega
    · exact ⟨a6, a7⟩
theorem snow_ok (h : CST T P PI M) (H : Ev none e 94 0 [some (.ref 0)] [] M v M' 0 0) : v = none ∧ CST T (zerP 6 (clsP P) 0 P) PI M' := by
  have hw := h.ok.1.1
  obtain ⟨_, c256, _⟩ := cls_int hw
  have t0 : (0 : Int32).toInt = 0 := rfl
  obtain ⟨zE, zL⟩ := zer_E (f := 6) (by decide) (clsP P) 0 P (by decide) (by omega)
  have hs : hiS P (zerP 6 (clsP P) 0 P) := zL
  obtain ⟨r1, r2⟩ := sno_0 h.sq h.ld H
  have S' : SQ M' := by rw [r2]; exact h.sq.ka
  have hF : FZ noF (fun a => a = 15) noO M M' := by rw [r2]; exact FZ.wA (W := fun a => a = 15) rfl
  refine ⟨r1, h.hi S' hF (fun a q => by omega) hs (fun k f hk hf => ?_) (h.ok.2.2.2.zer (Or.inr rfl) hw)⟩
  rw [cls_eq (hs 0 (by decide)) (hs 1 (by decide))] at hk
  rw [cE_nat hw hk (zerP 6 (clsP P) 0 P) f, zE f (nI k) hf (by rw [nI_toInt (by omega)]; omega)]
  by_cases hf6 : f = 6
  · subst hf6
    rw [if_pos ⟨rfl, by rw [nI_toInt (by omega)]; omega, by rw [nI_toInt (by omega)]; omega⟩, r2]
    exact rN_wA_eq h.sq.1 (fx_h8 lnd_8) qw_15 (by omega)
  · rw [if_neg (fun q => hf6 q.1), ← cE_nat hw hk P f]
    rw [hF.rn (by omega)]
    exact h.lan.2.2.1 k f hk hf
theorem g8L (hC : LCel L P M) (hc : inC P c) : G_8 M L c = bI (grnB P c) := by
  have e : rI M (L + 1) c = cE P 0 c := hC.at hc (f := 0) (by decide)
  unfold G_8 grnB
  rw [e]
  by_cases h3 : cE P 0 c = 0
  · rw [if_pos h3, decide_eq_true h3]; rfl
  · rw [if_neg h3, decide_eq_false h3]
    by_cases h6 : cE P 0 c = 2
    · rw [if_pos h6, decide_eq_true h6]; rfl
    · rw [if_neg h6, decide_eq_false h6]; rfl
theorem x10_ok (hS : SQ M) (hL : gNth sT L = some 8) (hC : LCel L P M) (hw : wh4 P) (hc : inC P c) : SQ (X_10 M L c k) ∧ LCel L (layP P c k) (X_10 M L c k) ∧ FZ noF (fun a => a = L + 1 ∨ a = L + 4) noO M (X_10 M L c k) := by
  have u1 : LCel L (uPk P (cX 0 c) k) (wI M (L + 1) c.toNatClampNeg k) := hC.up hS hL hw hc (f := 0) (by decide)
  have hs : hiS P (uPk P (cX 0 c) k) := fun j hj => up_ne (by have := cX_ge (f := 0) (c := c); omega)
  have hc1 : inC (uPk P (cX 0 c) k) c := (inC.hi hs).mpr hc
  have hw1 : wh4 (uPk P (cX 0 c) k) := hw.eq (hs 0 (by decide)) (hs 1 (by decide))
  have e0 : cE (uPk P (cX 0 c) k) 0 c = k := up_eq
  have hg := g8L u1 hc1
  have hF : FZ noF (fun a => a = L + 1 ∨ a = L + 4) noO M (wI M (L + 1) c.toNatClampNeg k) := FZ.wI (Or.inl rfl)
  unfold X_10 layP
  rw [hg]
  unfold grnB
  rw [e0]
  by_cases hk : k = 0 ∨ k = 2
  · rw [if_pos hk, if_neg (fun q => by rw [bI_0] at q; rcases hk with r | r <;> simp [r] at q)]
    exact ⟨hS.ki, u1, hF⟩
  · have n0 : ¬ k = 0 := fun q => hk (Or.inl q)
    have n2 : ¬ k = 2 := fun q => hk (Or.inr q)
    rw [if_neg hk, decide_eq_false n0, decide_eq_false n2, if_pos (show bI (false || false) = 0 from rfl)]
    exact ⟨hS.ki.ki, u1.up hS.ki hL hw1 hc1 (f := 3) (by decide), hF.trans (FZ.wI (Or.inr rfl))⟩
end CRAI
/-! THE CLASS'S wish, lay -/
section CWIS
variable {e B L : Nat} {T : TS} {P P' Q : PK} {PI : Nat → PK} {M M1 M' : Mem} {v : Option Value} {c k d x a b h ev fi t : Int32} {n i j : Nat}
theorem isd_ok (hC : CST T P PI M) : G_126 M d 0 (zI M 8 11 - 1) = 0 ↔ ¬ inD P d := by
  have hD := hC.ok.1
  have z11 : zI M 8 11 = P 2 := hC.lan.1.2.2.1.1
  have h0 := hD.2.1.1
  have e1 : (P 2 - 1).toInt = (P 2).toInt - 1 := i32_m1 (by omega)
  have t0 : (0 : Int32).toInt = 0 := rfl
  rw [z11, g126_R]
  unfold inX inD
  rw [e1, t0]
  exact ⟨fun q r => q ⟨r.1, by omega⟩, fun q r => q ⟨r.1, by omega⟩⟩
theorem twd_ok (hC : CST T P PI M) (H : Ev none e 129 0 [some (.ref 0), some (.int a), some (.int b)] [] M v M' 0 0) : M' = M ∧ ((inD P a ∧ inD P b ∧ ¬ a = b ∧ v = some (.int 1)) ∨ ((¬ inD P a ∨ ¬ inD P b ∨ a = b) ∧ v = some (.int 0))) := by
  have hS := hC.sq
  obtain ⟨e1, v1, M1, _, H1, H⟩ := twd_0 hS hC.ld H
  obtain ⟨rv, rm⟩ := isd_0 hS hC.ld H1
  rw [rv, rm] at H
  rcases twd_5 hS hC.ld H with ⟨a1, r1, r2⟩ | ⟨a1, e2, v2, M2, _, H2, H⟩
  · rw [isd_ok hC] at a1
    exact ⟨r2, Or.inr ⟨Or.inl a1, r1⟩⟩
  · rw [isd_ok hC, Classical.not_not] at a1
    obtain ⟨rv, rm⟩ := isd_0 hS hC.ld H2
    rw [rv, rm] at H
    rcases twd_13 hS hC.ld H with ⟨a2, r1, r2⟩ | ⟨a2, a3, r1, r2⟩ | ⟨a2, a3, r1, r2⟩
    · rw [isd_ok hC] at a2
      exact ⟨r2, Or.inr ⟨Or.inr (Or.inl a2), r1⟩⟩
    · exact ⟨r2, Or.inr ⟨Or.inr (Or.inr a3), r1⟩⟩
    · rw [isd_ok hC, Classical.not_not] at a2
      exact ⟨r2, Or.inl ⟨a1, a2, a3, r1⟩⟩
theorem wish_ok (hC : CST T P PI M) (H : Ev none e 89 0 [some (.ref 0), some (.int a), some (.int b), some (.int h), some (.int ev), some (.int fi), none] [] M v M' 0 0) : (wisN P a b h ev fi ∧ v = some (.int (-1)) ∧ M' = M) ∨ (¬ wisN P a b h ev fi ∧ v = some (.int (P 12)) ∧ CST T (wisP P a b h ev fi) PI M') := by
  have hS := hC.sq
  have hA := hC.lan
  have hD := hC.ok.1
  have z13 : zI M 8 13 = P 12 := hA.1.2.2.2.1
  have b0 := hD.2.2.1
  have b24 := hD.2.2.2.1
  unfold wisN
  rcases wis_0 hS hC.ld H with ⟨a1, r1, r2⟩ | ⟨a1, e1, v1, M1, _, H1, H⟩
  · rw [z13] at a1
    exact Or.inl ⟨Or.inl a1, r1, r2⟩
  · rw [z13] at a1
    obtain ⟨rm, rv⟩ := twd_ok hC H1
    rw [rm] at H
    rcases rv with ⟨ia, ib, nab, rv⟩ | ⟨no, rv⟩
    · rw [rv] at H
      rcases wis_18 hS hC.ld H with ⟨q, _⟩ | ⟨_, a2, r1, r2⟩ | ⟨_, _, a2, r1, r2⟩ | ⟨_, _, _, a2, r1, r2⟩ | ⟨_, a2, a3, a4, _, H⟩
      · exact absurd q (by decide)
      · rw [g126_R] at a2
        exact Or.inl ⟨Or.inr (Or.inr (Or.inr (Or.inr (Or.inl a2)))), r1, r2⟩
      · rw [g126_R] at a2
        exact Or.inl ⟨Or.inr (Or.inr (Or.inr (Or.inr (Or.inr (Or.inl a2))))), r1, r2⟩
      · rw [g126_R] at a2
        exact Or.inl ⟨Or.inr (Or.inr (Or.inr (Or.inr (Or.inr (Or.inr a2))))), r1, r2⟩
      · rw [g126_R, Classical.not_not] at a2 a3 a4
        have t24 : (24 : Int32).toInt = 24 := rfl
        have n24 : (P 12).toInt ≠ 24 := fun q => a1 (Int32.toInt_inj.mp (q.trans t24.symm))
        obtain ⟨m, em⟩ : ∃ m, m = (P 12).toInt.toNat := ⟨_, rfl⟩
        rw [z13, wx_oI hC.wx (by omega) (by omega), ← em] at H
        have tx := wi_t' hS.1 hC.wx (k := m) (by omega)
        obtain ⟨r1, r2⟩ := wis_74 hS tx hC.ld H
        rw [z13] at r1 r2
        obtain ⟨b1, b2, b3, b4⟩ := hD.wis a1 ia ib a2 a3 (fi := fi)
        have d12 : (wisP P a b h ev fi 12).toInt = (P 12).toInt + 1 := by rw [b3]; exact i32_p1 (by omega)
        have e0 := b4 0 (by decide)
        have e1' := b4 1 (by decide)
        have hF : FZ (fun a k => a = 8 + 12 + m ∨ (a = 8 ∧ k = 13)) noO noO M M' := by
          rw [r2]
          exact ((((((FZ.wF (F := fun a k => a = 8 + 12 + m ∨ (a = 8 ∧ k = 13)) (Or.inl rfl)).trans (FZ.wF (Or.inl rfl))).trans (FZ.wF (Or.inl rfl))).trans (FZ.wF (Or.inl rfl))).trans (FZ.wF (Or.inl rfl))).trans (FZ.wF (Or.inl rfl))).trans (FZ.wF (Or.inr ⟨rfl, rfl⟩))
        have S' : SQ M' := by rw [r2]; exact hS.kf.kf.kf.kf.kf.kf.kf
        refine Or.inr ⟨fun q => ?_, r1, hC.live S' (hF.more (fun a k q => by unfold cpF; omega) (fun a q => q.elim) (fun _ q => q)) (hC.ok.lo b1 (hC.ok.2.1.wis e0 e1' (by omega) b2) e0 e1' (fun j hj => b2 j (by omega))) (hA.lo hF e0 e1' b2 (fun a k _ _ q => by omega) (fun a q => q.elim) (fun q => q) hC.wk hC.ok.k60 ⟨?_, fun d hd => ?_⟩ ⟨?_, fun i hi f hf => ?_⟩)⟩
        · rcases q with q | q | q | q | q | q | q
          · exact a1 q
          · exact q ia
          · exact q ib
          · exact nab q
          · exact q a2
          · exact q a3
          · exact q a4
        · rw [b4 2 (by decide), hF.fi (by omega)]
          exact hA.1.2.2.1.1
        · rw [b4 2 (by decide)] at hd
          have := hD.2.1.2.1
          rw [b4 _ (by omega)]
          exact (hF.rn (fun q => q)).trans (hA.1.2.2.1.2 d hd)
        · rw [b3, r2]
          exact fI_wF_eq hS.kf.kf.kf.kf.kf.kf.1 lnd_8 qi_8_13
        · have hq : wisP P a b h ev fi (13 + 6 * i + f) = wiQ P m a b h ev fi (13 + 6 * i + f) := by
            rw [em]
            exact up_ne (by omega)
          rw [hq]
          by_cases him : i = m
          · rw [him]
            obtain ⟨i0, i1, i2, i3, i4, i5⟩ := wiQ_i (P := P) (k := m) (a := a) (b := b) (h := h) (ev := ev) (fi := fi)
            match f, hf with
            | 0, _ => rw [r2, fI_wF_ne (by omega), fI_wF_ne (by omega), fI_wF_ne (by omega), fI_wF_ne (by omega), fI_wF_ne (by omega), fI_wF_ne (by omega)]; exact (fI_wF_eq hS.1 tx qi_20_0).trans i0.symm
            | 1, _ => rw [r2, fI_wF_ne (by omega), fI_wF_ne (by omega), fI_wF_ne (by omega), fI_wF_ne (by omega), fI_wF_ne (by omega)]; exact (fI_wF_eq hS.kf.1 tx qi_20_1).trans i1.symm
            | 2, _ => rw [r2, fI_wF_ne (by omega), fI_wF_ne (by omega), fI_wF_ne (by omega), fI_wF_ne (by omega)]; exact (fI_wF_eq hS.kf.kf.1 tx qi_20_2).trans i2.symm
            | 3, _ => rw [r2, fI_wF_ne (by omega), fI_wF_ne (by omega), fI_wF_ne (by omega)]; exact (fI_wF_eq hS.kf.kf.kf.1 tx qi_20_3).trans i3.symm
            | 4, _ => rw [r2, fI_wF_ne (by omega), fI_wF_ne (by omega)]; exact (fI_wF_eq hS.kf.kf.kf.kf.1 tx qi_20_4).trans i4.symm
            | 5, _ => rw [r2, fI_wF_ne (by omega)]; exact (fI_wF_eq hS.kf.kf.kf.kf.kf.1 tx qi_20_5).trans i5.symm
          · rw [wiQ_o (by omega), hF.fi (by omega)]
            exact hA.1.2.2.2.2 i (by omega) f hf
    · rw [rv] at H
      rcases wis_18 hS hC.ld H with ⟨_, r1, r2⟩ | ⟨q, _⟩ | ⟨q, _⟩ | ⟨q, _⟩ | ⟨q, _⟩
      · refine Or.inl ⟨?_, r1, r2⟩
        rcases no with q | q | q
        · exact Or.inr (Or.inl q)
        · exact Or.inr (Or.inr (Or.inl q))
        · exact Or.inr (Or.inr (Or.inr (Or.inl q)))
      all_goals exact absurd rfl q
theorem lay_ok (hC : CST T P PI M) (H : Ev none e 95 0 [some (.ref 0), some (.int c), some (.int k)] [] M v M' 0 0) : (layN P c k ∧ v = some (.int 0) ∧ M' = M) ∨ (¬ layN P c k ∧ v = some (.int 1) ∧ CST T (layP P c k) PI M') := by
  have hS := hC.sq
  have hA := hC.lan
  have hD := hC.ok.1
  have hw := hD.1
  have hK := hC.ok.2.1
  have fin : inC P c → inX k 0 6 → M' = X_10 M 8 c k → CST T (layP P c k) PI M' := fun ic ik r2 => by
    obtain ⟨x1, x2, x3⟩ := x10_ok (k := k) hS lnd_8 hA.2.2.1 hw ic
    rw [r2]
    exact hC.hi x1 x3 (fun a q => by omega) lay_hi x2 (hC.ok.2.2.2.lay ic ik)
  obtain ⟨e1, v1, M1, _, H1, H⟩ := lay_0 hS hC.ld H
  obtain ⟨rv, rm⟩ := isc_0 hS hC.ld H1
  rw [rv, rm] at H
  have dr : ∀ M2 v2 e2, (k = 3 ∨ k = 6) → inC P c → inX k 0 6 → Ev none e2 9 0 [some (.ref 8), some (.int c), none] [] M v2 M2 0 0 → Ev none e 95 39 [some (.ref 0), some (.int c), some (.int k)] (v2.toList ++ []) M2 v M' 0 0 → (layN P c k ∧ v = some (.int 0) ∧ M' = M) ∨ (¬ layN P c k ∧ v = some (.int 1) ∧ CST T (layP P c k) PI M') := fun M2 v2 e2 hk ic ik H2 H => by
    obtain ⟨rm2, rv2⟩ := hsd_ok hS lnd_8 hA hD H2
    rw [rv2, rm2] at H
    have hcr : rI M (8 + 8) c = crdP P c (P 157).toInt.toNat := hA.2.2.2.2 c ic
    have z0 : (0 : Int32).toInt = 0 := rfl
    rcases lay_39 hS hC.ld H with ⟨a1, a2, _, r1, r2⟩ | ⟨a1, a2, _, r1, r2⟩ | ⟨a1, r1, r2⟩
    · rw [bI_0] at a1
      rw [hcr] at a2
      have a2 := Int32.le_iff_toInt_le.mp a2
      refine Or.inr ⟨fun q => ?_, r1, fin ic ik r2⟩
      rcases q with q | q | ⟨_, q | q⟩
      · exact q ic
      · exact q ik
      · rw [a1] at q; cases q
      · rw [← wth_crd hK.2.1] at q
        have := Int32.lt_iff_toInt_lt.mp q
        omega
    · rw [hcr] at a2
      have a2' : ¬ (crdP P c (P 157).toInt.toNat).toInt ≤ (0 : Int32).toInt := fun s => a2 (Int32.le_iff_toInt_le.mpr s)
      have hp : 0 < crdP P c (P 157).toInt.toNat := Int32.lt_iff_toInt_lt.mpr (by omega)
      exact Or.inl ⟨Or.inr (Or.inr ⟨hk, Or.inr ((wth_crd hK.2.1).mp hp)⟩), r1, r2⟩
    · rw [bI_0, Bool.not_eq_false] at a1
      exact Or.inl ⟨Or.inr (Or.inr ⟨hk, Or.inl a1⟩), r1, r2⟩
  rcases lay_5 hS hC.ld H with ⟨a1, r1, r2⟩ | ⟨a1, a2, r1, r2⟩ | ⟨a1, a2, a3, e2, v2, M2, _, H2, H⟩ | ⟨a1, a2, _, a3, e2, v2, M2, _, H2, H⟩ | ⟨a1, a2, a3, a4, r1, r2⟩
  · rw [isc_ok hA hw] at a1
    exact Or.inl ⟨Or.inl a1, r1, r2⟩
  · rw [g126_R] at a2
    exact Or.inl ⟨Or.inr (Or.inl a2), r1, r2⟩
  · rw [isc_ok hA hw, Classical.not_not] at a1
    rw [g126_R, Classical.not_not] at a2
    exact dr _ _ _ (Or.inl a3) a1 a2 H2 H
  · rw [isc_ok hA hw, Classical.not_not] at a1
    rw [g126_R, Classical.not_not] at a2
    exact dr _ _ _ (Or.inr a3) a1 a2 H2 H
  · rw [isc_ok hA hw, Classical.not_not] at a1
    rw [g126_R, Classical.not_not] at a2
    refine Or.inr ⟨fun q => ?_, r1, fin a1 a2 r2⟩
    rcases q with q | q | ⟨q | q, _⟩
    · exact q a1
    · exact q a2
    · exact a3 q
    · exact a4 q
end CWIS
/-! THE CLASS'S tapeTellsPark: pieces (made by gwal4.py) -/
theorem ttp_0 {e : Nat} {M M' : Mem} {v : Option Value} {a b : Int32} (hS : SQ M) (H : Ev none e 83 0 [some (.ref 0), some (.int a), some (.int b), none] [] M v M' 0 0) : ((G_126 M a 4 16) = 0 ∧ v = some (.int 0) ∧ M' = M) ∨ (¬ ((G_126 M a 4 16) = 0) ∧ (G_126 M b 4 16) = 0 ∧ v = some (.int 0) ∧ M' = M) ∨ (¬ ((G_126 M a 4 16) = 0) ∧ ¬ ((G_126 M b 4 16) = 0) ∧ (zI M 1 1) = (a * b) ∧ Ev none e 83 37 [some (.ref 0), some (.int a), some (.int b), some (.int 0)] [] M v M' 0 0) ∨ (¬ ((G_126 M a 4 16) = 0) ∧ ¬ ((G_126 M b 4 16) = 0) ∧ ¬ ((zI M 1 1) = (a * b)) ∧ v = some (.int 0) ∧ M' = M) := by
  have H : Ev none e 83 4 [some (.ref 0), some (.int a), some (.int b), none] [.int 16, .int 4, .int a] M v M' 0 0 := Ev.back 3 (fun n => rfl) H
  obtain ⟨e1, rfl⟩ := Ev.dpos rfl rfl H
  obtain ⟨vK1, MK1, K1, H⟩ := Ev.callb (fun n => rfl) H
  obtain ⟨pK1, qK1⟩ := g_126 hS K1
  rw [pK1, qK1] at H
  have H : Ev none (e1 + 1) 83 7 [some (.ref 0), some (.int a), some (.int b), none] [.int (G_126 M a 4 16)] M v M' 0 0 := H
  have H : Ev none (e1 + 1) 83 (if (G_126 M a 4 16) = 0 then 33 else 10) [some (.ref 0), some (.int a), some (.int b), none] [] M v M' 0 0 := Ev.back 1 (fun n => rfl) H
  by_cases h2 : (G_126 M a 4 16) = 0
  · rw [if_pos h2] at H
    have H : Ev none (e1 + 1) 83 34 [some (.ref 0), some (.int a), some (.int b), none] [.int 0] M v M' 0 0 := Ev.back 1 (fun n => rfl) H
    obtain ⟨z1, z2⟩ := Ev.retz rfl rfl H
    exact Or.inl ⟨h2, z1, z2⟩
  · rw [if_neg h2] at H
    have H : Ev none (e1 + 1) 83 14 [some (.ref 0), some (.int a), some (.int b), none] [.int 16, .int 4, .int b] M v M' 0 0 := Ev.back 3 (fun n => rfl) H
    obtain ⟨vK3, MK3, K3, H⟩ := Ev.callb (fun n => rfl) H
    obtain ⟨pK3, qK3⟩ := g_126 hS K3
    rw [pK3, qK3] at H
    have H : Ev none (e1 + 1) 83 17 [some (.ref 0), some (.int a), some (.int b), none] [.int (G_126 M b 4 16)] M v M' 0 0 := H
    have H : Ev none (e1 + 1) 83 (if (G_126 M b 4 16) = 0 then 33 else 20) [some (.ref 0), some (.int a), some (.int b), none] [] M v M' 0 0 := Ev.back 1 (fun n => rfl) H
    by_cases h4 : (G_126 M b 4 16) = 0
    · rw [if_pos h4] at H
      have H : Ev none (e1 + 1) 83 34 [some (.ref 0), some (.int a), some (.int b), none] [.int 0] M v M' 0 0 := Ev.back 1 (fun n => rfl) H
      obtain ⟨z1, z2⟩ := Ev.retz rfl rfl H
      exact Or.inr (Or.inl ⟨h2, h4, z1, z2⟩)
    · rw [if_neg h4] at H
      have H : Ev none (e1 + 1) 83 21 [some (.ref 0), some (.int a), some (.int b), none] [.ref 0] M v M' 0 0 := Ev.back 1 (fun n => rfl) H
      have H : Ev none (e1 + 1) 83 24 [some (.ref 0), some (.int a), some (.int b), none] [.ref 1] M v M' 0 0 := Ev.back 1 (gs_3 rfl rfl (gf_u hS.1 qa_0 qr_0_0 qu_1 rfl)) H
      have H : Ev none (e1 + 1) 83 27 [some (.ref 0), some (.int a), some (.int b), none] [.int (zI M 1 1)] M v M' 0 0 := Ev.back 1 (gs_3 rfl rfl (gf_i hS.1 qa_1 qi_1_1 rfl)) H
      have H : Ev none (e1 + 1) 83 (if (zI M 1 1) = (a * b) then 35 else 33) [some (.ref 0), some (.int a), some (.int b), none] [] M v M' 0 0 := Ev.back 4 (fun n => rfl) H
      by_cases h5 : (zI M 1 1) = (a * b)
      · rw [if_pos h5] at H
        have H : Ev none (e1 + 1) 83 37 [some (.ref 0), some (.int a), some (.int b), some (.int 0)] [] M v M' 0 0 := Ev.back 2 (fun n => rfl) H
        have HF := H
        exact Or.inr (Or.inr (Or.inl ⟨h2, h4, h5, HF⟩))
      · rw [if_neg h5] at H
        have H : Ev none (e1 + 1) 83 34 [some (.ref 0), some (.int a), some (.int b), none] [.int 0] M v M' 0 0 := Ev.back 1 (fun n => rfl) H
        obtain ⟨z1, z2⟩ := Ev.retz rfl rfl H
        exact Or.inr (Or.inr (Or.inr (⟨h2, h4, h5, z1, z2⟩)))
theorem ttp_37 {e : Nat} {M M' : Mem} {v : Option Value} {a b k : Int32} (hS : SQ M) (H : Ev none e 83 37 [some (.ref 0), some (.int a), some (.int b), some (.int k)] [] M v M' 0 0) : ((zI M 1 1) ≤ k ∧ v = some (.int 1) ∧ M' = M) ∨ (¬ ((zI M 1 1) ≤ k) ∧ ((rI M 2 k) &&& 7) ≤ 6 ∧ (0 ≤ k.toInt ∧ k.toInt < 440) ∧ Ev none e 83 37 [some (.ref 0), some (.int a), some (.int b), some (.int (k + 1))] [] M v M' 0 0) ∨ (¬ ((zI M 1 1) ≤ k) ∧ ¬ (((rI M 2 k) &&& 7) ≤ 6) ∧ (0 ≤ k.toInt ∧ k.toInt < 440) ∧ v = some (.int 0) ∧ M' = M) := by
  have H : Ev none e 83 39 [some (.ref 0), some (.int a), some (.int b), some (.int k)] [.ref 0, .int k] M v M' 0 0 := Ev.back 2 (fun n => rfl) H
  have H : Ev none e 83 42 [some (.ref 0), some (.int a), some (.int b), some (.int k)] [.ref 1, .int k] M v M' 0 0 := Ev.back 1 (gs_3 rfl rfl (gf_u hS.1 qa_0 qr_0_0 qu_1 rfl)) H
  have H : Ev none e 83 45 [some (.ref 0), some (.int a), some (.int b), some (.int k)] [.int (zI M 1 1), .int k] M v M' 0 0 := Ev.back 1 (gs_3 rfl rfl (gf_i hS.1 qa_1 qi_1_1 rfl)) H
  have H : Ev none e 83 (if (zI M 1 1) ≤ k then 73 else 48) [some (.ref 0), some (.int a), some (.int b), some (.int k)] [] M v M' 0 0 := Ev.back 1 (fun n => rfl) H
  by_cases h1 : (zI M 1 1) ≤ k
  · rw [if_pos h1] at H
    have H : Ev none e 83 74 [some (.ref 0), some (.int a), some (.int b), some (.int k)] [.int 1] M v M' 0 0 := Ev.back 1 (fun n => rfl) H
    obtain ⟨z1, z2⟩ := Ev.retz rfl rfl H
    exact Or.inl ⟨h1, z1, z2⟩
  · rw [if_neg h1] at H
    have H : Ev none e 83 49 [some (.ref 0), some (.int a), some (.int b), some (.int k)] [.ref 0] M v M' 0 0 := Ev.back 1 (fun n => rfl) H
    have H : Ev none e 83 52 [some (.ref 0), some (.int a), some (.int b), some (.int k)] [.ref 1] M v M' 0 0 := Ev.back 1 (gs_3 rfl rfl (gf_u hS.1 qa_0 qr_0_0 qu_1 rfl)) H
    have H : Ev none e 83 55 [some (.ref 0), some (.int a), some (.int b), some (.int k)] [.ref 2] M v M' 0 0 := Ev.back 1 (gs_3 rfl rfl (gf_u hS.1 qa_1 qr_1_0 qu_2 rfl)) H
    have H : Ev none e 83 56 [some (.ref 0), some (.int a), some (.int b), some (.int k)] [.int k, .ref 2] M v M' 0 0 := Ev.back 1 (fun n => rfl) H
    obtain ⟨b2, H⟩ := Ev.ial rfl rfl hS.1 qa_2 qw_2 H
    have H : Ev none e 83 57 [some (.ref 0), some (.int a), some (.int b), some (.int k)] [.int (rI M 2 k)] M v M' 0 0 := H
    have H : Ev none e 83 (if ((rI M 2 k) &&& 7) ≤ 6 then 67 else 65) [some (.ref 0), some (.int a), some (.int b), some (.int k)] [] M v M' 0 0 := Ev.back 4 (fun n => rfl) H
    by_cases h3 : ((rI M 2 k) &&& 7) ≤ 6
    · rw [if_pos h3] at H
      have H : Ev none e 83 37 [some (.ref 0), some (.int a), some (.int b), some (.int (k + 1))] [] M v M' 0 0 := Ev.back 2 (fun n => rfl) H
      have HF := H
      exact Or.inr (Or.inl ⟨h1, h3, b2, HF⟩)
    · rw [if_neg h3] at H
      have H : Ev none e 83 66 [some (.ref 0), some (.int a), some (.int b), some (.int k)] [.int 0] M v M' 0 0 := Ev.back 1 (fun n => rfl) H
      obtain ⟨z1, z2⟩ := Ev.retz rfl rfl H
      exact Or.inr (Or.inr (⟨h1, h3, b2, z1, z2⟩))
/-! THE CLASS'S park, image, restore -/
def parT (a b z : Int32) (o : Nat → Int32) : Prop := inX a 4 16 ∧ inX b 4 16 ∧ z = a * b ∧ ∀ k, k < a.toInt.toNat * b.toInt.toNat → ¬ byI (o k) 0 = 7
section CPAR
variable {e B L : Nat} {T : TS} {P P' Q : PK} {PI : Nat → PK} {M M1 M' : Mem} {v : Option Value} {c k d x a b t y : Int32} {n i j : Nat}
theorem ttp_l (hS : SQ M) (hn : (zI M 1 1).toInt = (n : Int)) (hb : ∀ k, k < n → 0 ≤ (rN M 2 k).toInt ∧ (rN M 2 k).toInt < 256) : ∀ (r k : Nat) (kz : Int32), kz.toInt = (k : Int) → k + r = n → (∀ i, i < k → ¬ byI (rN M 2 i) 0 = 7) → Ev none e 83 37 [some (.ref 0), some (.int a), some (.int b), some (.int kz)] [] M v M' 0 0 → M' = M ∧ ((v = some (.int 1) ∧ ∀ i, i < n → ¬ byI (rN M 2 i) 0 = 7) ∨ (v = some (.int 0) ∧ ∃ i, i < n ∧ byI (rN M 2 i) 0 = 7)) := by
  have t6 : (6 : Int32).toInt = 6 := rfl
  have t7 : (7 : Int32).toInt = 7 := rfl
  intro r
  induction r with
  | zero =>
    intro k kz hk hkr hg H
    rcases ttp_37 hS H with ⟨_, r1, r2⟩ | ⟨a1, _⟩ | ⟨a1, _⟩
    · exact ⟨r2, Or.inl ⟨r1, fun i hi => hg i (by omega)⟩⟩
    all_goals exact absurd (Int32.le_iff_toInt_le.mpr (by omega)) a1
  | succ r ih =>
    intro k kz hk hkr hg H
    have hbk := hb k (by omega)
    have hbb := (by_bits hbk).1
    have hbr := (by_rng hbk).1
    have er : rI M 2 kz = rN M 2 k := rI_n hk
    have hz := (i32_lt (zI M 1 1)).2
    rcases ttp_37 hS H with ⟨a1, _⟩ | ⟨_, a2, _, H⟩ | ⟨_, a2, _, r1, r2⟩
    · have := Int32.le_iff_toInt_le.mp a1
      omega
    · rw [er, hbb] at a2
      have a2 := Int32.le_iff_toInt_le.mp a2
      refine ih (k + 1) (kz + 1) (by rw [i32_p1 (by omega)]; omega) (by omega) (fun i hi => ?_) H
      by_cases hik : i = k
      · rw [hik]
        intro q
        rw [q] at a2
        omega
      · exact hg i (by omega)
    · rw [er, hbb] at a2
      have a2' : ¬ (byI (rN M 2 k) 0).toInt ≤ (6 : Int32).toInt := fun s => a2 (Int32.le_iff_toInt_le.mpr s)
      exact ⟨r2, Or.inr ⟨r1, k, by omega, Int32.toInt_inj.mp (by omega)⟩⟩
theorem ttp_ok (hS : SQ M) (hb : ∀ k, k < (zI M 1 1).toInt.toNat → 0 ≤ (rN M 2 k).toInt ∧ (rN M 2 k).toInt < 256) (H : Ev none e 83 0 [some (.ref 0), some (.int a), some (.int b), none] [] M v M' 0 0) : M' = M ∧ ((parT a b (zI M 1 1) (rN M 2) ∧ v = some (.int 1)) ∨ (¬ parT a b (zI M 1 1) (rN M 2) ∧ v = some (.int 0))) := by
  have t4 : (4 : Int32).toInt = 4 := rfl
  have t16 : (16 : Int32).toInt = 16 := rfl
  unfold parT
  rcases ttp_0 hS H with ⟨a1, r1, r2⟩ | ⟨_, a1, r1, r2⟩ | ⟨a1, a2, a3, H⟩ | ⟨a1, a2, a3, r1, r2⟩
  · rw [g126_R] at a1
    exact ⟨r2, Or.inr ⟨fun q => a1 q.1, r1⟩⟩
  · rw [g126_R] at a1
    exact ⟨r2, Or.inr ⟨fun q => a1 q.2.1, r1⟩⟩
  · rw [g126_R, Classical.not_not] at a1 a2
    have w1 : 4 ≤ a.toInt ∧ a.toInt ≤ 16 := by unfold inX at a1; omega
    have w2 : 4 ≤ b.toInt ∧ b.toInt ≤ 16 := by unfold inX at a2; omega
    obtain ⟨c1, c2, _⟩ := cls_int (parP_wh (o := rN M 2) w1 w2)
    have cw : clsP (parP a b (rN M 2)) = a.toInt.toNat * b.toInt.toNat := rfl
    rw [cw] at c1 c2
    rw [parP_0, parP_1] at c1
    have hn : (zI M 1 1).toInt = ((a.toInt.toNat * b.toInt.toNat : Nat) : Int) := by rw [a3, i32_mul (by omega) (by omega)]; exact c1.symm
    obtain ⟨rm, rv⟩ := ttp_l hS hn (fun k hk => hb k (by omega)) (a.toInt.toNat * b.toInt.toNat) 0 0 rfl (by omega) (fun i hi => absurd hi (Nat.not_lt_zero _)) H
    rcases rv with ⟨rv, g⟩ | ⟨rv, i, i1, i2⟩
    · exact ⟨rm, Or.inl ⟨⟨a1, a2, a3, g⟩, rv⟩⟩
    · exact ⟨rm, Or.inr ⟨fun q => q.2.2.2 i i1 i2, rv⟩⟩
  · exact ⟨r2, Or.inr ⟨fun q => a3 q.2.2.1, r1⟩⟩
/-- the tape's length is no part of the state -/
theorem CST.tp (h : CST T P PI M) : CST T P PI (wF M 1 1 y) := by
  have hF : FZ (fun a k => a = 1 ∧ k = 1) noO noO M (wF M 1 1 y) := FZ.wF ⟨rfl, rfl⟩
  refine h.scr h.sq.kf hF ⟨by omega, by omega, by omega⟩ (fun L hL _ => ⟨fun a k q1 q2 q => ?_, fun a _ _ q => q⟩) (fun t ht => ⟨fun k q => ?_, fun k _ _ q => q⟩) ⟨fun q => q, fun q => q, fun q => q⟩ (fun _ _ _ q => q) (fun L hL => ⟨fun k hk => (hF.on (fun q => q)).trans ((h.2.2.2.2.2.1 L hL).1 k hk), (h.2.2.2.2.2.1 L hL).2.on (fun j => hF.on (fun q => q))⟩) (h.2.2.2.2.1.fz hF (by omega) (by omega) (fun _ _ _ q => q)) (fun q => q)
  · have := ld_cases hL
    have := q.1
    omega
  · have := tx_cases ht
    have := q.1
    omega
theorem park_ok (h : CST T P PI M) (hb : ∀ k, k < (zI M 1 1).toInt.toNat → 0 ≤ (rN M 2 k).toInt ∧ (rN M 2 k).toInt < 256) (H : Ev none e 82 0 [some (.ref 0), some (.int a), some (.int b), none] [] M v M' 0 0) : (¬ parT a b (zI M 1 1) (rN M 2) ∧ v = some (.int 0) ∧ CST T P PI M') ∨ (parT a b (zI M 1 1) (rN M 2) ∧ v = some (.int 1) ∧ CST T (parP a b (rN M 2)) PI M') := by
  have hS := h.sq
  obtain ⟨e1, v1, M1, _, H1, H⟩ := prk_0 hS H
  obtain ⟨rm, rv⟩ := ttp_ok hS hb H1
  rw [rm] at H
  rcases rv with ⟨hp, rv⟩ | ⟨hp, rv⟩
  · rw [rv] at H
    have t4 : (4 : Int32).toInt = 4 := rfl
    have t16 : (16 : Int32).toInt = 16 := rfl
    obtain ⟨p1, p2, p3, p4⟩ := hp
    have w1 : 4 ≤ a.toInt ∧ a.toInt ≤ 16 := by unfold inX at p1; omega
    have w2 : 4 ≤ b.toInt ∧ b.toInt ≤ 16 := by unfold inX at p2; omega
    obtain ⟨c1, c2, _⟩ := cls_int (parP_wh (o := rN M 2) w1 w2)
    have cw : clsP (parP a b (rN M 2)) = a.toInt.toNat * b.toInt.toNat := rfl
    rw [cw] at c1 c2
    rw [parP_0, parP_1] at c1
    have hn : (zI M 1 1).toInt = ((a.toInt.toNat * b.toInt.toNat : Nat) : Int) := by rw [p3, i32_mul (by omega) (by omega)]; exact c1.symm
    rcases prk_6 hS h.ld H with ⟨q, _⟩ | ⟨_, e2, v2, M2, _, H2, H⟩
    · exact absurd q (by decide)
    · obtain ⟨rv2, s1, s2, s3⟩ := renew_ok hS lnd_8 w1 w2 (fun k hk => hb k (by omega)) H2
      rw [rv2] at H
      obtain ⟨u1, u2⟩ := prk_24 s1 H
      obtain ⟨d1, d2⟩ := parP_D (o := rN M 2) w1 w2
      have z518 : parP a b (rN M 2) 518 = 0 := parP_z (by decide) (by decide)
      have ok : okA (parP a b (rN M 2)) := ⟨d1, d2, by rw [z518]; decide, parP_E (fun k hk => ⟨hb k (by omega), p4 k hk⟩)⟩
      refine Or.inr ⟨⟨p1, p2, p3, p4⟩, u1, ?_⟩
      rw [u2]
      exact (h.live s1 (s2.more (fun a k q => ⟨Nat.le_of_eq q.1.symm, by have := q.1; omega⟩) (fun _ q => q) (fun _ q => q)) ok s3).tp
  · rw [rv] at H
    rcases prk_6 hS h.ld H with ⟨_, r1, r2⟩ | ⟨q, _⟩
    · refine Or.inl ⟨hp, r1, ?_⟩
      rw [r2]
      exact h.tp
    · exact absurd rfl q
end CPAR
/-! THE CLASS'S image, restore, openCase -/
section CIMG
variable {e B L : Nat} {T : TS} {P P' Q : PK} {PI : Nat → PK} {M M1 M' : Mem} {v : Option Value} {c k d x a b t y : Int32} {n i j : Nat}
theorem img_rng (h : inX k 0 2) : ∃ m : Nat, m < 3 ∧ k.toInt = (m : Int) := by
  unfold inX at h
  have t0 : (0 : Int32).toInt = 0 := rfl
  have t2 : (2 : Int32).toInt = 2 := rfl
  exact ⟨k.toInt.toNat, by omega, by omega⟩
noncomputable def upI (PI : Nat → PK) (m : Nat) (P : PK) : Nat → PK := fun j => if j = m then P else PI j
/-- a land that is not the live one becomes another -/
theorem CST.cop (h : CST T P PI M) (hL : gNth sT L = some 8) (hne : ¬ L = 8) (hS : SQ M') (hF : FZ (cpF L) (cpW L) noO M M') (hI : ∀ k, k < 3 → ¬ rN M 340 k = 0 → ¬ imgA k = L) : CST T P PI M' := by
  obtain ⟨a1, ⟨a2, a3, a4⟩, a5, a6, a7, a8, ⟨a9, a10⟩, a11⟩ := h
  have hl := ld_cases hL
  refine ⟨hS, ⟨(hF.fr (by unfold cpF; omega)).trans a2, (hF.fr (by unfold cpF; omega)).trans a3, fun k hk => (hF.on (fun q => q)).trans (a4 k hk)⟩, a5.fz a1.1 hF (by unfold cpF; omega) (fun t ht => ?_) (fun q => q), fun m hm => (hF.on (fun q => q)).trans (a6 m hm), a7.fz hF (by unfold cpF; omega) (by unfold cpF; omega) (fun a _ _ => by unfold cpW; omega), fun L hL => ⟨fun k hk => (hF.on (fun q => q)).trans ((a8 L hL).1 k hk), (a8 L hL).2.on (fun j => hF.on (fun q => q))⟩, ⟨a9, a10.fz hF (fun a k q1 q2 => by unfold cpF; omega) (fun a q1 q2 => by unfold cpW; omega) (fun q => q) (a8 8 lnd_8).2 a9.n24 a9.k60⟩, fun k hk hr => ?_⟩
  · have := tx_cases ht
    exact ⟨fun k => by unfold cpF; omega, fun k k1 k8 => by unfold cpW; omega⟩
  · have er : rN M' 340 k = rN M 340 k := hF.rn (by unfold cpW; omega)
    rw [er] at hr
    obtain ⟨b1, b2⟩ := a11 k hk hr
    have hi := hI k hk hr
    have h3 := lnd_im k hk
    unfold imgA at hi
    exact ⟨b1, b2.fz hF (fun a k q1 q2 => by unfold imgA at q1 q2; unfold cpF; omega) (fun a q1 q2 => by unfold imgA at q1 q2; unfold cpW; omega) (fun q => q) (a8 _ h3).2 b1.n24 b1.k60⟩
theorem image_ok (h : CST T P PI M) (H : Ev none e 123 0 [some (.ref 0), some (.int k)] [] M v M' 0 0) : (¬ inX k 0 2 ∧ v = some (.int 0) ∧ M' = M) ∨ (inX k 0 2 ∧ v = some (.int 1) ∧ CST T P (upI PI k.toInt.toNat P) M') := by
  have hS := h.sq
  have hD := h.ok.1
  rcases img_0 hS h.ld H with ⟨a1, r1, r2⟩ | ⟨a1, _, e1, v1, M1, _, H1, H⟩
  · rw [g126_R] at a1
    exact Or.inl ⟨a1, r1, r2⟩
  · rw [g126_R, Classical.not_not] at a1
    obtain ⟨m, m3, hk⟩ := img_rng a1
    have ei : oI M 339 k = imgA m := by unfold oI; rw [cl_n hk]; exact h.2.1.2.2 m m3
    have hi := lnd_im m m3
    have hne : imgA m ≠ 8 := by unfold imgA; omega
    rw [ei] at H1
    obtain ⟨_, _, _, _, _, hXs, _, _⟩ := id h
    obtain ⟨rv, s1, s2, s3⟩ := copy_ok hS hi lnd_8 hne hD h.ok.2.1 (hXs _ hi).1 h.wx (hXs _ hi).2 h.wk h.lan H1
    rw [rv] at H
    obtain ⟨_, u1, u2⟩ := img_24 s1 H
    rw [cl_n hk] at u2
    have hF : FZ noF (fun a => a = 340) noO M1 M' := by rw [u2]; exact FZ.wI (W := fun a => a = 340) rfl
    have S' : SQ M' := by rw [u2]; exact s1.ki
    have F2 : FZ (cpF (imgA m)) (fun a => cpW (imgA m) a ∨ a = 340) noO M M' := (s2.more (fun _ _ q => q) (fun _ q => Or.inl q) (fun _ q => q)).trans (hF.more (fun _ _ q => q.elim) (fun _ q => Or.inr q) (fun _ q => q))
    refine Or.inr ⟨a1, u1, ?_⟩
    obtain ⟨b1, ⟨b2, b3, b4⟩, b5, b6, b7, b8, ⟨b9, b10⟩, b11⟩ := h
    refine ⟨S', ⟨(F2.fr (by unfold cpF imgA; omega)).trans b2, (F2.fr (by unfold cpF imgA; omega)).trans b3, fun k hk => (F2.on (fun q => q)).trans (b4 k hk)⟩, b5.fz b1.1 F2 (by unfold cpF imgA; omega) (fun t ht => ?_) (fun q => q), fun m hm => (F2.on (fun q => q)).trans (b6 m hm), b7.fz F2 (by unfold cpF imgA; omega) (by unfold cpF imgA; omega) (fun a _ _ => by unfold cpW imgA; omega), fun L hL => ⟨fun k hk => (F2.on (fun q => q)).trans ((b8 L hL).1 k hk), (b8 L hL).2.on (fun j => F2.on (fun q => q))⟩, ⟨b9, b10.fz F2 (fun a k q1 q2 => by unfold cpF imgA; omega) (fun a q1 q2 => by unfold cpW imgA; omega) (fun q => q) (b8 8 lnd_8).2 b9.n24 b9.k60⟩, fun j hj hr => ?_⟩
    · have := tx_cases ht
      exact ⟨fun k => by unfold cpF imgA; omega, fun k k1 k8 => by unfold cpW imgA; omega⟩
    · have em : k.toInt.toNat = m := by omega
      unfold upI
      rw [em]
      by_cases hjm : j = m
      · rw [if_pos hjm, hjm]
        exact ⟨b9, s3.fz hF (fun _ _ _ _ q => q) (fun a q1 q2 q => by unfold imgA at q1 q2; omega) (fun q => q) ((b8 _ hi).2.on (fun j => s2.on (fun q => q))) b9.n24 b9.k60⟩
      · rw [if_neg hjm]
        have er : rN M' 340 j = rN M 340 j := by
          rw [u2, rN_wI_ne (by omega)]
          exact s2.rn (by unfold cpW imgA; omega)
        rw [er] at hr
        obtain ⟨c1, c2⟩ := b11 j hj hr
        exact ⟨c1, c2.fz F2 (fun a k q1 q2 => by unfold imgA at q1 q2; unfold cpF imgA; omega) (fun a q1 q2 => by unfold imgA at q1 q2; unfold cpW imgA; omega) (fun q => q) (b8 _ (lnd_im j hj)).2 c1.n24 c1.k60⟩
theorem restore_ok (h : CST T P PI M) (H : Ev none e 124 0 [some (.ref 0), some (.int k)] [] M v M' 0 0) : ((¬ inX k 0 2 ∨ rN M 340 k.toInt.toNat = 0) ∧ v = some (.int 0) ∧ M' = M) ∨ (inX k 0 2 ∧ ¬ rN M 340 k.toInt.toNat = 0 ∧ v = some (.int 1) ∧ CST T (PI k.toInt.toNat) PI M') := by
  have hS := h.sq
  rcases rst_0 hS h.ld H with ⟨a1, r1, r2⟩ | ⟨a1, a2, _, r1, r2⟩ | ⟨a1, a2, _, _, e1, v1, M1, _, H1, H⟩
  · rw [g126_R] at a1
    exact Or.inl ⟨Or.inl a1, r1, r2⟩
  · rw [g126_R, Classical.not_not] at a1
    obtain ⟨m, m3, hk⟩ := img_rng a1
    have em : k.toInt.toNat = m := by omega
    rw [rI_n hk] at a2
    rw [em]
    exact Or.inl ⟨Or.inr a2, r1, r2⟩
  · rw [g126_R, Classical.not_not] at a1
    obtain ⟨m, m3, hk⟩ := img_rng a1
    have em : k.toInt.toNat = m := by omega
    rw [rI_n hk] at a2
    rw [em]
    have ei : oI M 339 k = imgA m := by unfold oI; rw [cl_n hk]; exact h.2.1.2.2 m m3
    have hi := lnd_im m m3
    have hne : 8 ≠ imgA m := by unfold imgA; omega
    rw [ei] at H1
    obtain ⟨_, _, _, _, _, hXs, _, hPI⟩ := id h
    obtain ⟨c1, c2⟩ := hPI m m3 a2
    obtain ⟨rv, s1, s2, s3⟩ := copy_ok hS lnd_8 hi hne c1.1 c1.2.1 h.wx (hXs _ hi).1 h.wk (hXs _ hi).2 c2 H1
    rw [rv] at H
    obtain ⟨u1, u2⟩ := rst_33 s1 H
    refine Or.inr ⟨a1, a2, u1, ?_⟩
    rw [u2]
    exact h.live s1 s2 c1 s3
/-- a trial on the other land -/
theorem openC_ok (h : CST T P PI M) (H : Ev none e 133 0 [some (.ref 0)] [] M v M' 0 0) : v = none ∧ CST T P PI M' ∧ STA 243 T P M' ∧ LST 243 P M' ∧ WFl (-1) [] M' := by
  have hS := h.sq
  have hD := h.ok.1
  obtain ⟨e1, v1, M1, _, H1, H⟩ := opc_0 hS h.ld h.2.1.2.1 H
  obtain ⟨_, _, _, _, _, hXs, _, _⟩ := id h
  obtain ⟨rv, s1, s2, s3⟩ := copy_ok hS lnd_tr lnd_8 (by decide) hD h.ok.2.1 (hXs _ lnd_tr).1 h.wx (hXs _ lnd_tr).2 h.wk h.lan H1
  rw [rv] at H
  have h1 : CST T P PI M1 := h.cop lnd_tr (by decide) s1 s2 (fun k hk _ => by unfold imgA; omega)
  obtain ⟨e2, v2, M2, _, H2, H⟩ := opc_11 s1 h1.ld h1.2.1.2.1 H
  obtain ⟨_, _, _, _, hG, hXs1, _, _⟩ := id h1
  obtain ⟨rv2, q2, q3, q4, q5, _, _, q6⟩ := enter_ok s1 lnd_tr hD.1 h1.ok.2.2.2.nn hG h1.2.2.2.1 h1.2.2.1 s3 (hXs1 _ lnd_tr).1 (hXs1 _ lnd_tr).2 h1.ok.n24 h1.ok.k60 H2
  rw [rv2] at H
  obtain ⟨u1, u2⟩ := opc_22 q2.sq H
  rw [u2]
  refine ⟨u1, h1.scr q2.sq q4 ⟨by unfold enF shgF; omega, by unfold enF shgF; omega, by unfold enF shgF; omega⟩ (fun L hL _ => ⟨fun a k q1 q2 => ?_, fun a q1 q2 => ?_⟩) (fun t ht => ⟨fun k => ?_, fun k k1 k8 => ?_⟩) ⟨fun q => q, fun q => q, fun q => q⟩ (fun _ _ _ q => q) (fun L hL => ⟨fun k hk => (q4.on (fun q => q)).trans ((hXs1 L hL).1 k hk), (hXs1 L hL).2.on (fun j => q4.on (fun q => q))⟩) q5 (by unfold enW shgW; omega), q2, q3, q6⟩
  · have := ld_cases hL
    unfold enF shgF
    omega
  · have := ld_cases hL
    unfold enW shgW
    omega
  · have := tx_cases ht
    unfold enF shgF
    omega
  · have := tx_cases ht
    unfold enW shgW
    omega
end CIMG
