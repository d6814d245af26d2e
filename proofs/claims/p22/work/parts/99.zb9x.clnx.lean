/-! THE CLASS'S LINES, whole (made by glin3.py) -/
section LIX
variable {n t : Nat} {B : Nat → Int32} {M M' : Mem} {s : Sg} {ls : List Lnq}
theorem PRE.mid6 {fr : Nat} (h : PRE B n t M s ls 6 0 fr) : MID B n t M s ls (6, 0, 0, fr, 0) := by
  obtain ⟨hC, hL, hE, hF, _⟩ := h
  refine ⟨hC, hL, hE, ?_, ?_, ?_, ?_, ?_⟩
  · rw [tv_app2 (by exact (by decide : (6 : Int32) ≠ 2))]; exact hF.1
  · rw [tv_app2 (by exact (by decide : (6 : Int32) ≠ 3))]; exact hF.2.1
  · rw [tv_app2 (by exact (by decide : (6 : Int32) ≠ 4))]; exact hF.2.2.1
  · rw [tv_app2 (by exact (by decide : (6 : Int32) ≠ 7))]; exact hF.2.2.2.1
  · rw [tdS_app]
    exact (hF.2.2.2.2.trans (Int32.or_zero).symm).trans (tdk6 _ _ _ _).symm
theorem LNr.err {v : Option Value} {f : Int32 × Nat} (h : ERt M' v f) : LNr B n t M' v (.inr f) := h
theorem li0_ok {e : Nat} {v : Option Value} {a : Int32} (ht : gNth sT t = some 28) (hn2 : n ≤ 440) (hCL : CL B n t M s ls) (hw : (hdT s.1).1 = 2) (H : Ev none (e + 1) 33 44 [some (.ref 3), some (.int a), some (.int 0), none, none, none, none] [] M v M' 0 0) : FA (fLq t) (wLn t) M M' ∧ LNr B n t M' v (if 16 ≤ ls.length ∨ (onceB 0 = true ∧ hasK ls 0 = true) then .inr (3, (hdT s.1).2.1) else bodB B ((prS B e).1 1) (s.1.tail, s.2.1, s.2.2) ls 0) := by
  obtain ⟨hC, hL, hF⟩ := hCL
  have hb := tx_ge ht
  have h8 := hC.2.2.2.2.2.1
  have hcs := hC.2.2.2.2.2.2.1.1
  subst h8
  have hix : (zI M (fR M 3 8) 8).toNatClampNeg = ls.length := cl_n hL.1
  have o16 : (16 : Int32).toInt = 16 := rfl
  have h16 : (16 ≤ zI M (fR M 3 8) 8) ↔ 16 ≤ ls.length := by rw [Int32.le_iff_toInt_le, hL.1]; omega
  have bits := td_bits (hasK ls 2) (hasK ls 3) (hasK ls 4) (hasK ls 7)
  have htd : zI M 3 10 = tdB (hasK ls 2) (hasK ls 3) (hasK ls 4) (hasK ls 7) := hF.2.2.2.2
  rcases ln0_44 hC.1 ht H with ⟨g1, e1, v1, M1, he, H1, H⟩ | ⟨g1, g2, -, -, -, -, -, e1, v1, M1, he, H1, H⟩ | ⟨g1, g2, e1, v1, M1, he, H1, H⟩
  · rw [if_pos (Or.inl (h16.mp g1))]
    obtain ⟨f1, f2⟩ := hC.err (v := v) (M' := M') H1 (fun y hy S => by subst hy; exact ln0_72 S (by rw [(hC.fail H1).1.fr (by simp [fP])]; exact ht) H)
    exact ⟨f1.ln, f2⟩
  rotate_left
  · rw [htd] at g2
    exact absurd bits.2.2.2.2.1 g2
  have hno : ¬ (16 ≤ ls.length ∨ (onceB 0 = true ∧ hasK ls 0 = true)) := fun q => q.elim (fun x => g1 (h16.mpr x)) (fun x => absurd x.1 (by decide))
  have hl16 : ls.length < 16 := by
    by_cases q : 16 ≤ ls.length
    · exact absurd (Or.inl q) hno
    · omega
  rw [if_neg hno]
  cases he
  rw [hix] at H1
  have s1 : SQ (wI M (fR M 3 8 + 1) ls.length 0) := hC.1.ki
  have F1 : FA [] [fR M 3 8 + 1, fR M 3 8 + 2, fR M 3 8 + 3, fR M 3 8 + 4, fR M 3 8 + 5] M (wI (wI (wI (wI (wI M (fR M 3 8 + 1) ls.length 0) (fR M 3 8 + 2) ls.length 0) (fR M 3 8 + 3) ls.length 0) (fR M 3 8 + 4) ls.length (zI M (fR M 3 8) 9)) (fR M 3 8 + 5) ls.length (zI M (fR M 3 8) 9)) := ((((FA.wI (by simp)).trans (FA.wI (by simp))).trans (FA.wI (by simp))).trans (FA.wI (by simp))).trans (FA.wI (by simp))
  have S5 : SQ (wI (wI (wI (wI (wI M (fR M 3 8 + 1) ls.length 0) (fR M 3 8 + 2) ls.length 0) (fR M 3 8 + 3) ls.length 0) (fR M 3 8 + 4) ls.length (zI M (fR M 3 8) 9)) (fR M 3 8 + 5) ls.length (zI M (fR M 3 8) 9)) := hC.1.ki.ki.ki.ki.ki
  have C5 : CSt B n (fR M 3 8) (wI (wI (wI (wI (wI M (fR M 3 8 + 1) ls.length 0) (fR M 3 8 + 2) ls.length 0) (fR M 3 8 + 3) ls.length 0) (fR M 3 8 + 4) ls.length (zI M (fR M 3 8) 9)) (fR M 3 8 + 5) ls.length (zI M (fR M 3 8) 9)) s := hC.frm S5 F1 (fun q _ r => by cases r) (fun b hb r => by
    simp only [List.mem_cons, List.not_mem_nil, or_false] at hb r
    omega)
  have E5 : ENq (wI (wI (wI (wI (wI M (fR M 3 8 + 1) ls.length 0) (fR M 3 8 + 2) ls.length 0) (fR M 3 8 + 3) ls.length 0) (fR M 3 8 + 4) ls.length (zI M (fR M 3 8) 9)) (fR M 3 8 + 5) ls.length (zI M (fR M 3 8) 9)) (fR M 3 8) ls.length 0 0 0 s.2.2.length := by
    refine ⟨?_, ?_, ?_, ?_⟩
    · rw [rN_wI_ne (fun q => by omega), rN_wI_ne (fun q => by omega), rN_wI_ne (fun q => by omega), rN_wI_ne (fun q => by omega), rN_wI_eq (by rw [(hC.1.1.row (fx_g0 ht) qw_29).2]; exact hl16)]
    · rw [rN_wI_ne (fun q => by omega), rN_wI_ne (fun q => by omega), rN_wI_ne (fun q => by omega), rN_wI_eq (by rw [(s1.1.row (fx_g1 ht) qw_30).2]; exact hl16)]
    · rw [rN_wI_ne (fun q => by omega), rN_wI_ne (fun q => by omega), rN_wI_eq (by rw [(s1.ki.1.row (fx_g2 ht) qw_31).2]; exact hl16)]
    · rw [rN_wI_ne (fun q => by omega), rN_wI_eq (by rw [(s1.ki.ki.1.row (fx_g3 ht) qw_32).2]; exact hl16)]
      exact hcs
  obtain ⟨p1, p2, p3, p4⟩ := fP_no hb.1
  obtain ⟨rfl, F2, C2⟩ := C5.go ht (by rw [hw]; decide) (by rw [hw]; decide) H1
  have P2 : PRE B n (fR M 3 8) M1 (s.1.tail, s.2.1, s.2.2) ls 0 0 s.2.2.length := ⟨C2, (hL.ui.ui.ui.ui.ui).frm F2 p2 p3, E5.frm F2 p4, (hF.frm F1 (fun q _ r => by cases r)).frm F2 p1, hl16⟩
  have F12 : FA (fLq (fR M 3 8)) (wLn (fR M 3 8)) M M1 := (F1.more (fun q hq => by cases hq) (fun q hq => by
    simp only [wLn, List.mem_cons, List.not_mem_nil, or_false] at hq ⊢
    rcases hq with h | h | h | h | h <;> simp [h])).trans F2.ln
  have h91 : fR M1 3 8 = fR M 3 8 := F12.fr (by simp [fLq]; omega)
  unfold bodB
  rw [if_neg (by decide : ¬ (0 : Int32) = 6), if_neg (by decide : ¬ (0 : Int32) = 5)]
  obtain ⟨e3, v3, M3, he, H3, H⟩ := ln0_147 C2.1 (by rw [h91]; exact ht) H
  cases he
  obtain ⟨F3, R3⟩ := nu0_ok ht P2 hL.1 H3
  have FX := F12.trans F3
  have h93 : fR M3 3 8 = fR M 3 8 := FX.fr (by simp [fLq]; omega)
  rcases R3 with ⟨q1, q2⟩ | ⟨q1, q2, q3⟩ | ⟨q1, q2, rfl, Q3⟩
  · unfold numB
    rw [if_pos q1]
    obtain ⟨rfl, S9, r9⟩ := q2
    rcases ln0_175 S9 (by rw [h93]; exact ht) H with ⟨_, h3, rfl⟩ | ⟨h3, _⟩
    · exact ⟨FX, h3, S9, r9⟩
    · exact absurd rfl h3
  · unfold numB
    rw [if_neg (fun q => q q1), if_pos q2]
    obtain ⟨rfl, S9, r9⟩ := q3
    rcases ln0_175 S9 (by rw [h93]; exact ht) H with ⟨_, h3, rfl⟩ | ⟨h3, _⟩
    · exact ⟨FX, h3, S9, r9⟩
    · exact absurd rfl h3
  · unfold numB
    rw [if_neg (fun q => q q1), if_neg q2]
    rcases ln0_175 Q3.1.1 (by rw [h93]; exact ht) H with ⟨h3, _⟩ | ⟨_, e4, v4, M4, he, H4, H⟩
    · exact absurd h3 (by decide)
    cases he
    obtain ⟨rfl, rfl⟩ := amq_all (ws := [ifW]) Q3.1.1 hn2 Q3.1.2.2.1 rfl (by decide) (List.cons_ne_nil _ _) (by decide) (by decide) H4
    rw [Q3.1.wd] at H
    have hx : ∀ w : List Int32, ixF w [ifW] 0 = if w = ifW then 0 else -1 := fun w => rfl
    unfold cndB
    rw [if_neg (by decide : ¬ (0 : Int32) = 6)]
    by_cases hw2 : wdS B (hdT ((s.1.tail.tail, s.2.1, s.2.2) : Sg).1) = ifW
    · rw [hx, if_pos (by exact hw2)] at H
      rw [if_pos ⟨by decide, hw2⟩]
      have h2t := wd_ne hw2 (by decide)
      rcases ln0_224 Q3.1.1 (by rw [h93]; exact ht) H with ⟨_, e5, v5, M5, he, H5, H⟩ | ⟨h3, _⟩ | ⟨h3, _⟩
      rotate_left
      · exact absurd rfl h3
      · exact absurd rfl h3
      obtain ⟨rfl, F5, Q5⟩ := Q3.go ht (by rw [show (hdT ((s.1.tail.tail, s.2.1, s.2.2) : Sg).1).1 = 2 from h2t]; decide) (by rw [show (hdT ((s.1.tail.tail, s.2.1, s.2.2) : Sg).1).1 = 2 from h2t]; decide) H5
      have h95 : fR M5 3 8 = fR M 3 8 := Q5.1.2.2.2.2.2.1
      obtain ⟨e6, v6, M6, he, H6, H⟩ := ln0_243 Q5.1.1 (by rw [h95]; exact ht) H
      cases he
      obtain ⟨F6, R6⟩ := Q5.con ht hn2 H6
      have FY := (FX.trans F5).trans F6
      have h96 : fR M6 3 8 = fR M 3 8 := FY.fr (by simp [fLq]; omega)
      cases hr : (prS B e).1 1 (((s.1.tail.tail, s.2.1, s.2.2) : Sg).1.tail, ((s.1.tail.tail, s.2.1, s.2.2) : Sg).2.1, ((s.1.tail.tail, s.2.1, s.2.2) : Sg).2.2) with
      | inr f =>
        rw [hr] at R6
        obtain ⟨rfl, S9, r9⟩ := R6
        rcases ln0_259 S9 (by rw [h96]; exact ht) H with ⟨_, h3, rfl⟩ | ⟨h3, _⟩ | ⟨h3, _⟩
        · exact ⟨FY, h3, S9, r9⟩
        · exact absurd rfl h3
        · exact absurd rfl h3
      | inl s2 =>
        rw [hr] at R6
        obtain ⟨rfl, Q6⟩ := R6
        rcases ln0_259 Q6.1.1 (by rw [h96]; exact ht) H with ⟨h3, _⟩ | ⟨_, g4, g5⟩ | ⟨_, g4, g5⟩
        · exact absurd h3 (by decide)
        · obtain ⟨f7, r7⟩ := en0_ok ht Q6 hl16 hL.1 (Or.inl ⟨g4, g5⟩)
          exact ⟨FY.trans f7, r7⟩
        · obtain ⟨f7, r7⟩ := en0_ok ht Q6 hl16 hL.1 (Or.inr ⟨g4, g5⟩)
          exact ⟨FY.trans f7, r7⟩
    · rw [hx, if_neg (by exact hw2)] at H
      rw [if_neg (fun q => hw2 q.2)]
      rcases ln0_224 Q3.1.1 (by rw [h93]; exact ht) H with ⟨h3, _⟩ | ⟨_, g4, g5⟩ | ⟨_, g4, g5⟩
      · exact absurd h3 (by decide)
      · obtain ⟨f7, r7⟩ := en0_ok ht Q3 hl16 hL.1 (Or.inl ⟨g4, g5⟩)
        exact ⟨FX.trans f7, r7⟩
      · obtain ⟨f7, r7⟩ := en0_ok ht Q3 hl16 hL.1 (Or.inr ⟨g4, g5⟩)
        exact ⟨FX.trans f7, r7⟩
theorem li1_ok {e : Nat} {v : Option Value} {a : Int32} (ht : gNth sT t = some 28) (hn2 : n ≤ 440) (hCL : CL B n t M s ls) (hw : (hdT s.1).1 = 2) (H : Ev none (e + 1) 33 44 [some (.ref 3), some (.int a), some (.int 1), none, none, none, none] [] M v M' 0 0) : FA (fLq t) (wLn t) M M' ∧ LNr B n t M' v (if 16 ≤ ls.length ∨ (onceB 1 = true ∧ hasK ls 1 = true) then .inr (3, (hdT s.1).2.1) else bodB B ((prS B e).1 1) (s.1.tail, s.2.1, s.2.2) ls 1) := by
  obtain ⟨hC, hL, hF⟩ := hCL
  have hb := tx_ge ht
  have h8 := hC.2.2.2.2.2.1
  have hcs := hC.2.2.2.2.2.2.1.1
  subst h8
  have hix : (zI M (fR M 3 8) 8).toNatClampNeg = ls.length := cl_n hL.1
  have o16 : (16 : Int32).toInt = 16 := rfl
  have h16 : (16 ≤ zI M (fR M 3 8) 8) ↔ 16 ≤ ls.length := by rw [Int32.le_iff_toInt_le, hL.1]; omega
  have bits := td_bits (hasK ls 2) (hasK ls 3) (hasK ls 4) (hasK ls 7)
  have htd : zI M 3 10 = tdB (hasK ls 2) (hasK ls 3) (hasK ls 4) (hasK ls 7) := hF.2.2.2.2
  rcases ln1_44 hC.1 ht H with ⟨g1, e1, v1, M1, he, H1, H⟩ | ⟨g1, g2, -, -, -, -, -, e1, v1, M1, he, H1, H⟩ | ⟨g1, g2, e1, v1, M1, he, H1, H⟩
  · rw [if_pos (Or.inl (h16.mp g1))]
    obtain ⟨f1, f2⟩ := hC.err (v := v) (M' := M') H1 (fun y hy S => by subst hy; exact ln1_72 S (by rw [(hC.fail H1).1.fr (by simp [fP])]; exact ht) H)
    exact ⟨f1.ln, f2⟩
  rotate_left
  · rw [htd] at g2
    exact absurd bits.2.2.2.2.2.1 g2
  have hno : ¬ (16 ≤ ls.length ∨ (onceB 1 = true ∧ hasK ls 1 = true)) := fun q => q.elim (fun x => g1 (h16.mpr x)) (fun x => absurd x.1 (by decide))
  have hl16 : ls.length < 16 := by
    by_cases q : 16 ≤ ls.length
    · exact absurd (Or.inl q) hno
    · omega
  rw [if_neg hno]
  cases he
  rw [hix] at H1
  have s1 : SQ (wI M (fR M 3 8 + 1) ls.length 1) := hC.1.ki
  have F1 : FA [] [fR M 3 8 + 1, fR M 3 8 + 2, fR M 3 8 + 3, fR M 3 8 + 4, fR M 3 8 + 5] M (wI (wI (wI (wI (wI M (fR M 3 8 + 1) ls.length 1) (fR M 3 8 + 2) ls.length 0) (fR M 3 8 + 3) ls.length 0) (fR M 3 8 + 4) ls.length (zI M (fR M 3 8) 9)) (fR M 3 8 + 5) ls.length (zI M (fR M 3 8) 9)) := ((((FA.wI (by simp)).trans (FA.wI (by simp))).trans (FA.wI (by simp))).trans (FA.wI (by simp))).trans (FA.wI (by simp))
  have S5 : SQ (wI (wI (wI (wI (wI M (fR M 3 8 + 1) ls.length 1) (fR M 3 8 + 2) ls.length 0) (fR M 3 8 + 3) ls.length 0) (fR M 3 8 + 4) ls.length (zI M (fR M 3 8) 9)) (fR M 3 8 + 5) ls.length (zI M (fR M 3 8) 9)) := hC.1.ki.ki.ki.ki.ki
  have C5 : CSt B n (fR M 3 8) (wI (wI (wI (wI (wI M (fR M 3 8 + 1) ls.length 1) (fR M 3 8 + 2) ls.length 0) (fR M 3 8 + 3) ls.length 0) (fR M 3 8 + 4) ls.length (zI M (fR M 3 8) 9)) (fR M 3 8 + 5) ls.length (zI M (fR M 3 8) 9)) s := hC.frm S5 F1 (fun q _ r => by cases r) (fun b hb r => by
    simp only [List.mem_cons, List.not_mem_nil, or_false] at hb r
    omega)
  have E5 : ENq (wI (wI (wI (wI (wI M (fR M 3 8 + 1) ls.length 1) (fR M 3 8 + 2) ls.length 0) (fR M 3 8 + 3) ls.length 0) (fR M 3 8 + 4) ls.length (zI M (fR M 3 8) 9)) (fR M 3 8 + 5) ls.length (zI M (fR M 3 8) 9)) (fR M 3 8) ls.length 1 0 0 s.2.2.length := by
    refine ⟨?_, ?_, ?_, ?_⟩
    · rw [rN_wI_ne (fun q => by omega), rN_wI_ne (fun q => by omega), rN_wI_ne (fun q => by omega), rN_wI_ne (fun q => by omega), rN_wI_eq (by rw [(hC.1.1.row (fx_g0 ht) qw_29).2]; exact hl16)]
    · rw [rN_wI_ne (fun q => by omega), rN_wI_ne (fun q => by omega), rN_wI_ne (fun q => by omega), rN_wI_eq (by rw [(s1.1.row (fx_g1 ht) qw_30).2]; exact hl16)]
    · rw [rN_wI_ne (fun q => by omega), rN_wI_ne (fun q => by omega), rN_wI_eq (by rw [(s1.ki.1.row (fx_g2 ht) qw_31).2]; exact hl16)]
    · rw [rN_wI_ne (fun q => by omega), rN_wI_eq (by rw [(s1.ki.ki.1.row (fx_g3 ht) qw_32).2]; exact hl16)]
      exact hcs
  obtain ⟨p1, p2, p3, p4⟩ := fP_no hb.1
  obtain ⟨rfl, F2, C2⟩ := C5.go ht (by rw [hw]; decide) (by rw [hw]; decide) H1
  have P2 : PRE B n (fR M 3 8) M1 (s.1.tail, s.2.1, s.2.2) ls 1 0 s.2.2.length := ⟨C2, (hL.ui.ui.ui.ui.ui).frm F2 p2 p3, E5.frm F2 p4, (hF.frm F1 (fun q _ r => by cases r)).frm F2 p1, hl16⟩
  have F12 : FA (fLq (fR M 3 8)) (wLn (fR M 3 8)) M M1 := (F1.more (fun q hq => by cases hq) (fun q hq => by
    simp only [wLn, List.mem_cons, List.not_mem_nil, or_false] at hq ⊢
    rcases hq with h | h | h | h | h <;> simp [h])).trans F2.ln
  have h91 : fR M1 3 8 = fR M 3 8 := F12.fr (by simp [fLq]; omega)
  unfold bodB
  rw [if_neg (by decide : ¬ (1 : Int32) = 6), if_neg (by decide : ¬ (1 : Int32) = 5)]
  obtain ⟨e3, v3, M3, he, H3, H⟩ := ln1_147 C2.1 (by rw [h91]; exact ht) H
  cases he
  obtain ⟨F3, R3⟩ := nu1_ok ht P2 hL.1 H3
  have FX := F12.trans F3
  have h93 : fR M3 3 8 = fR M 3 8 := FX.fr (by simp [fLq]; omega)
  rcases R3 with ⟨q1, q2⟩ | ⟨q1, q2, q3⟩ | ⟨q1, q2, rfl, Q3⟩
  · unfold numB
    rw [if_pos q1]
    obtain ⟨rfl, S9, r9⟩ := q2
    rcases ln1_175 S9 (by rw [h93]; exact ht) H with ⟨_, h3, rfl⟩ | ⟨h3, _⟩
    · exact ⟨FX, h3, S9, r9⟩
    · exact absurd rfl h3
  · unfold numB
    rw [if_neg (fun q => q q1), if_pos q2]
    obtain ⟨rfl, S9, r9⟩ := q3
    rcases ln1_175 S9 (by rw [h93]; exact ht) H with ⟨_, h3, rfl⟩ | ⟨h3, _⟩
    · exact ⟨FX, h3, S9, r9⟩
    · exact absurd rfl h3
  · unfold numB
    rw [if_neg (fun q => q q1), if_neg q2]
    rcases ln1_175 Q3.1.1 (by rw [h93]; exact ht) H with ⟨h3, _⟩ | ⟨_, e4, v4, M4, he, H4, H⟩
    · exact absurd h3 (by decide)
    cases he
    obtain ⟨rfl, rfl⟩ := amq_all (ws := [ifW]) Q3.1.1 hn2 Q3.1.2.2.1 rfl (by decide) (List.cons_ne_nil _ _) (by decide) (by decide) H4
    rw [Q3.1.wd] at H
    have hx : ∀ w : List Int32, ixF w [ifW] 0 = if w = ifW then 0 else -1 := fun w => rfl
    unfold cndB
    rw [if_neg (by decide : ¬ (1 : Int32) = 6)]
    by_cases hw2 : wdS B (hdT ((s.1.tail.tail, s.2.1, s.2.2) : Sg).1) = ifW
    · rw [hx, if_pos (by exact hw2)] at H
      rw [if_pos ⟨by decide, hw2⟩]
      have h2t := wd_ne hw2 (by decide)
      rcases ln1_224 Q3.1.1 (by rw [h93]; exact ht) H with ⟨_, e5, v5, M5, he, H5, H⟩ | ⟨h3, _⟩ | ⟨h3, _⟩
      rotate_left
      · exact absurd rfl h3
      · exact absurd rfl h3
      obtain ⟨rfl, F5, Q5⟩ := Q3.go ht (by rw [show (hdT ((s.1.tail.tail, s.2.1, s.2.2) : Sg).1).1 = 2 from h2t]; decide) (by rw [show (hdT ((s.1.tail.tail, s.2.1, s.2.2) : Sg).1).1 = 2 from h2t]; decide) H5
      have h95 : fR M5 3 8 = fR M 3 8 := Q5.1.2.2.2.2.2.1
      obtain ⟨e6, v6, M6, he, H6, H⟩ := ln1_243 Q5.1.1 (by rw [h95]; exact ht) H
      cases he
      obtain ⟨F6, R6⟩ := Q5.con ht hn2 H6
      have FY := (FX.trans F5).trans F6
      have h96 : fR M6 3 8 = fR M 3 8 := FY.fr (by simp [fLq]; omega)
      cases hr : (prS B e).1 1 (((s.1.tail.tail, s.2.1, s.2.2) : Sg).1.tail, ((s.1.tail.tail, s.2.1, s.2.2) : Sg).2.1, ((s.1.tail.tail, s.2.1, s.2.2) : Sg).2.2) with
      | inr f =>
        rw [hr] at R6
        obtain ⟨rfl, S9, r9⟩ := R6
        rcases ln1_259 S9 (by rw [h96]; exact ht) H with ⟨_, h3, rfl⟩ | ⟨h3, _⟩ | ⟨h3, _⟩
        · exact ⟨FY, h3, S9, r9⟩
        · exact absurd rfl h3
        · exact absurd rfl h3
      | inl s2 =>
        rw [hr] at R6
        obtain ⟨rfl, Q6⟩ := R6
        rcases ln1_259 Q6.1.1 (by rw [h96]; exact ht) H with ⟨h3, _⟩ | ⟨_, g4, g5⟩ | ⟨_, g4, g5⟩
        · exact absurd h3 (by decide)
        · obtain ⟨f7, r7⟩ := en1_ok ht Q6 hl16 hL.1 (Or.inl ⟨g4, g5⟩)
          exact ⟨FY.trans f7, r7⟩
        · obtain ⟨f7, r7⟩ := en1_ok ht Q6 hl16 hL.1 (Or.inr ⟨g4, g5⟩)
          exact ⟨FY.trans f7, r7⟩
    · rw [hx, if_neg (by exact hw2)] at H
      rw [if_neg (fun q => hw2 q.2)]
      rcases ln1_224 Q3.1.1 (by rw [h93]; exact ht) H with ⟨h3, _⟩ | ⟨_, g4, g5⟩ | ⟨_, g4, g5⟩
      · exact absurd h3 (by decide)
      · obtain ⟨f7, r7⟩ := en1_ok ht Q3 hl16 hL.1 (Or.inl ⟨g4, g5⟩)
        exact ⟨FX.trans f7, r7⟩
      · obtain ⟨f7, r7⟩ := en1_ok ht Q3 hl16 hL.1 (Or.inr ⟨g4, g5⟩)
        exact ⟨FX.trans f7, r7⟩
theorem li2_ok {e : Nat} {v : Option Value} {a : Int32} (ht : gNth sT t = some 28) (hn2 : n ≤ 440) (hCL : CL B n t M s ls) (hw : (hdT s.1).1 = 2) (H : Ev none (e + 1) 33 44 [some (.ref 3), some (.int a), some (.int 2), none, none, none, none] [] M v M' 0 0) : FA (fLq t) (wLn t) M M' ∧ LNr B n t M' v (if 16 ≤ ls.length ∨ (onceB 2 = true ∧ hasK ls 2 = true) then .inr (3, (hdT s.1).2.1) else bodB B ((prS B e).1 1) (s.1.tail, s.2.1, s.2.2) ls 2) := by
  obtain ⟨hC, hL, hF⟩ := hCL
  have hb := tx_ge ht
  have h8 := hC.2.2.2.2.2.1
  have hcs := hC.2.2.2.2.2.2.1.1
  subst h8
  have hix : (zI M (fR M 3 8) 8).toNatClampNeg = ls.length := cl_n hL.1
  have o16 : (16 : Int32).toInt = 16 := rfl
  have h16 : (16 ≤ zI M (fR M 3 8) 8) ↔ 16 ≤ ls.length := by rw [Int32.le_iff_toInt_le, hL.1]; omega
  have bits := td_bits (hasK ls 2) (hasK ls 3) (hasK ls 4) (hasK ls 7)
  have htd : zI M 3 10 = tdB (hasK ls 2) (hasK ls 3) (hasK ls 4) (hasK ls 7) := hF.2.2.2.2
  rcases ln2_44 hC.1 ht H with ⟨g1, e1, v1, M1, he, H1, H⟩ | ⟨g1, g2, -, -, -, -, -, e1, v1, M1, he, H1, H⟩ | ⟨g1, g2, e1, v1, M1, he, H1, H⟩
  · rw [if_pos (Or.inl (h16.mp g1))]
    obtain ⟨f1, f2⟩ := hC.err (v := v) (M' := M') H1 (fun y hy S => by subst hy; exact ln2_72 S (by rw [(hC.fail H1).1.fr (by simp [fP])]; exact ht) H)
    exact ⟨f1.ln, f2⟩
  rotate_left
  · rw [htd] at g2
    have hk : hasK ls 2 = true := by
      cases hq : hasK ls 2 with
      | true => rfl
      | false => exact absurd (bits.1.mpr hq) g2
    rw [if_pos (Or.inr ⟨rfl, hk⟩)]
    obtain ⟨f1, f2⟩ := hC.err (v := v) (M' := M') H1 (fun y hy S => by subst hy; exact ln2_72 S (by rw [(hC.fail H1).1.fr (by simp [fP])]; exact ht) H)
    exact ⟨f1.ln, f2⟩
  rw [htd] at g2
  have hk : hasK ls 2 = false := bits.1.mp g2
  have hno : ¬ (16 ≤ ls.length ∨ (onceB 2 = true ∧ hasK ls 2 = true)) := fun q => q.elim (fun x => g1 (h16.mpr x)) (fun x => by rw [hk] at x; exact absurd x.2 (by decide))
  have hl16 : ls.length < 16 := by
    by_cases q : 16 ≤ ls.length
    · exact absurd (Or.inl q) hno
    · omega
  rw [if_neg hno]
  cases he
  rw [hix] at H1
  have s1 : SQ (wI M (fR M 3 8 + 1) ls.length 2) := hC.1.ki
  have F1 : FA [] [fR M 3 8 + 1, fR M 3 8 + 2, fR M 3 8 + 3, fR M 3 8 + 4, fR M 3 8 + 5] M (wI (wI (wI (wI (wI M (fR M 3 8 + 1) ls.length 2) (fR M 3 8 + 2) ls.length 0) (fR M 3 8 + 3) ls.length 0) (fR M 3 8 + 4) ls.length (zI M (fR M 3 8) 9)) (fR M 3 8 + 5) ls.length (zI M (fR M 3 8) 9)) := ((((FA.wI (by simp)).trans (FA.wI (by simp))).trans (FA.wI (by simp))).trans (FA.wI (by simp))).trans (FA.wI (by simp))
  have S5 : SQ (wI (wI (wI (wI (wI M (fR M 3 8 + 1) ls.length 2) (fR M 3 8 + 2) ls.length 0) (fR M 3 8 + 3) ls.length 0) (fR M 3 8 + 4) ls.length (zI M (fR M 3 8) 9)) (fR M 3 8 + 5) ls.length (zI M (fR M 3 8) 9)) := hC.1.ki.ki.ki.ki.ki
  have C5 : CSt B n (fR M 3 8) (wI (wI (wI (wI (wI M (fR M 3 8 + 1) ls.length 2) (fR M 3 8 + 2) ls.length 0) (fR M 3 8 + 3) ls.length 0) (fR M 3 8 + 4) ls.length (zI M (fR M 3 8) 9)) (fR M 3 8 + 5) ls.length (zI M (fR M 3 8) 9)) s := hC.frm S5 F1 (fun q _ r => by cases r) (fun b hb r => by
    simp only [List.mem_cons, List.not_mem_nil, or_false] at hb r
    omega)
  have E5 : ENq (wI (wI (wI (wI (wI M (fR M 3 8 + 1) ls.length 2) (fR M 3 8 + 2) ls.length 0) (fR M 3 8 + 3) ls.length 0) (fR M 3 8 + 4) ls.length (zI M (fR M 3 8) 9)) (fR M 3 8 + 5) ls.length (zI M (fR M 3 8) 9)) (fR M 3 8) ls.length 2 0 0 s.2.2.length := by
    refine ⟨?_, ?_, ?_, ?_⟩
    · rw [rN_wI_ne (fun q => by omega), rN_wI_ne (fun q => by omega), rN_wI_ne (fun q => by omega), rN_wI_ne (fun q => by omega), rN_wI_eq (by rw [(hC.1.1.row (fx_g0 ht) qw_29).2]; exact hl16)]
    · rw [rN_wI_ne (fun q => by omega), rN_wI_ne (fun q => by omega), rN_wI_ne (fun q => by omega), rN_wI_eq (by rw [(s1.1.row (fx_g1 ht) qw_30).2]; exact hl16)]
    · rw [rN_wI_ne (fun q => by omega), rN_wI_ne (fun q => by omega), rN_wI_eq (by rw [(s1.ki.1.row (fx_g2 ht) qw_31).2]; exact hl16)]
    · rw [rN_wI_ne (fun q => by omega), rN_wI_eq (by rw [(s1.ki.ki.1.row (fx_g3 ht) qw_32).2]; exact hl16)]
      exact hcs
  obtain ⟨p1, p2, p3, p4⟩ := fP_no hb.1
  obtain ⟨rfl, F2, C2⟩ := C5.go ht (by rw [hw]; decide) (by rw [hw]; decide) H1
  have P2 : PRE B n (fR M 3 8) M1 (s.1.tail, s.2.1, s.2.2) ls 2 0 s.2.2.length := ⟨C2, (hL.ui.ui.ui.ui.ui).frm F2 p2 p3, E5.frm F2 p4, (hF.frm F1 (fun q _ r => by cases r)).frm F2 p1, hl16⟩
  have F12 : FA (fLq (fR M 3 8)) (wLn (fR M 3 8)) M M1 := (F1.more (fun q hq => by cases hq) (fun q hq => by
    simp only [wLn, List.mem_cons, List.not_mem_nil, or_false] at hq ⊢
    rcases hq with h | h | h | h | h <;> simp [h])).trans F2.ln
  have h91 : fR M1 3 8 = fR M 3 8 := F12.fr (by simp [fLq]; omega)
  unfold bodB
  rw [if_neg (by decide : ¬ (2 : Int32) = 6), if_neg (by decide : ¬ (2 : Int32) = 5)]
  obtain ⟨e3, v3, M3, he, H3, H⟩ := ln2_147 C2.1 (by rw [h91]; exact ht) H
  cases he
  obtain ⟨F3, R3⟩ := nu2_ok ht P2 hL.1 hk H3
  have FX := F12.trans F3
  have h93 : fR M3 3 8 = fR M 3 8 := FX.fr (by simp [fLq]; omega)
  rcases R3 with ⟨q1, q2⟩ | ⟨q1, q2, q3⟩ | ⟨q1, q2, rfl, Q3⟩
  · unfold numB
    rw [if_pos q1]
    obtain ⟨rfl, S9, r9⟩ := q2
    rcases ln2_175 S9 (by rw [h93]; exact ht) H with ⟨_, h3, rfl⟩ | ⟨h3, _⟩ | ⟨h3, _⟩
    · exact ⟨FX, h3, S9, r9⟩
    · exact absurd rfl h3
    · exact absurd rfl h3
  · unfold numB
    rw [if_neg (fun q => q q1), if_pos q2]
    obtain ⟨rfl, S9, r9⟩ := q3
    rcases ln2_175 S9 (by rw [h93]; exact ht) H with ⟨_, h3, rfl⟩ | ⟨h3, _⟩ | ⟨h3, _⟩
    · exact ⟨FX, h3, S9, r9⟩
    · exact absurd rfl h3
    · exact absurd rfl h3
  · unfold numB
    rw [if_neg (fun q => q q1), if_neg q2]
    unfold cndB
    rw [if_neg (by decide : ¬ (2 : Int32) = 6), if_neg (fun q => absurd q.1 (by decide))]
    rcases ln2_175 Q3.1.1 (by rw [h93]; exact ht) H with ⟨h3, _⟩ | ⟨_, g4, g5⟩ | ⟨_, g4, g5⟩
    · exact absurd h3 (by decide)
    · obtain ⟨f7, r7⟩ := en2_ok ht Q3 hl16 hL.1 (Or.inl ⟨g4, g5⟩)
      exact ⟨FX.trans f7, r7⟩
    · obtain ⟨f7, r7⟩ := en2_ok ht Q3 hl16 hL.1 (Or.inr ⟨g4, g5⟩)
      exact ⟨FX.trans f7, r7⟩
theorem li3_ok {e : Nat} {v : Option Value} {a : Int32} (ht : gNth sT t = some 28) (hn2 : n ≤ 440) (hCL : CL B n t M s ls) (hw : (hdT s.1).1 = 2) (H : Ev none (e + 1) 33 44 [some (.ref 3), some (.int a), some (.int 3), none, none, none, none] [] M v M' 0 0) : FA (fLq t) (wLn t) M M' ∧ LNr B n t M' v (if 16 ≤ ls.length ∨ (onceB 3 = true ∧ hasK ls 3 = true) then .inr (3, (hdT s.1).2.1) else bodB B ((prS B e).1 1) (s.1.tail, s.2.1, s.2.2) ls 3) := by
  obtain ⟨hC, hL, hF⟩ := hCL
  have hb := tx_ge ht
  have h8 := hC.2.2.2.2.2.1
  have hcs := hC.2.2.2.2.2.2.1.1
  subst h8
  have hix : (zI M (fR M 3 8) 8).toNatClampNeg = ls.length := cl_n hL.1
  have o16 : (16 : Int32).toInt = 16 := rfl
  have h16 : (16 ≤ zI M (fR M 3 8) 8) ↔ 16 ≤ ls.length := by rw [Int32.le_iff_toInt_le, hL.1]; omega
  have bits := td_bits (hasK ls 2) (hasK ls 3) (hasK ls 4) (hasK ls 7)
  have htd : zI M 3 10 = tdB (hasK ls 2) (hasK ls 3) (hasK ls 4) (hasK ls 7) := hF.2.2.2.2
  rcases ln3_44 hC.1 ht H with ⟨g1, e1, v1, M1, he, H1, H⟩ | ⟨g1, g2, -, -, -, -, -, e1, v1, M1, he, H1, H⟩ | ⟨g1, g2, e1, v1, M1, he, H1, H⟩
  · rw [if_pos (Or.inl (h16.mp g1))]
    obtain ⟨f1, f2⟩ := hC.err (v := v) (M' := M') H1 (fun y hy S => by subst hy; exact ln3_72 S (by rw [(hC.fail H1).1.fr (by simp [fP])]; exact ht) H)
    exact ⟨f1.ln, f2⟩
  rotate_left
  · rw [htd] at g2
    have hk : hasK ls 3 = true := by
      cases hq : hasK ls 3 with
      | true => rfl
      | false => exact absurd (bits.2.1.mpr hq) g2
    rw [if_pos (Or.inr ⟨rfl, hk⟩)]
    obtain ⟨f1, f2⟩ := hC.err (v := v) (M' := M') H1 (fun y hy S => by subst hy; exact ln3_72 S (by rw [(hC.fail H1).1.fr (by simp [fP])]; exact ht) H)
    exact ⟨f1.ln, f2⟩
  rw [htd] at g2
  have hk : hasK ls 3 = false := bits.2.1.mp g2
  have hno : ¬ (16 ≤ ls.length ∨ (onceB 3 = true ∧ hasK ls 3 = true)) := fun q => q.elim (fun x => g1 (h16.mpr x)) (fun x => by rw [hk] at x; exact absurd x.2 (by decide))
  have hl16 : ls.length < 16 := by
    by_cases q : 16 ≤ ls.length
    · exact absurd (Or.inl q) hno
    · omega
  rw [if_neg hno]
  cases he
  rw [hix] at H1
  have s1 : SQ (wI M (fR M 3 8 + 1) ls.length 3) := hC.1.ki
  have F1 : FA [] [fR M 3 8 + 1, fR M 3 8 + 2, fR M 3 8 + 3, fR M 3 8 + 4, fR M 3 8 + 5] M (wI (wI (wI (wI (wI M (fR M 3 8 + 1) ls.length 3) (fR M 3 8 + 2) ls.length 0) (fR M 3 8 + 3) ls.length 0) (fR M 3 8 + 4) ls.length (zI M (fR M 3 8) 9)) (fR M 3 8 + 5) ls.length (zI M (fR M 3 8) 9)) := ((((FA.wI (by simp)).trans (FA.wI (by simp))).trans (FA.wI (by simp))).trans (FA.wI (by simp))).trans (FA.wI (by simp))
  have S5 : SQ (wI (wI (wI (wI (wI M (fR M 3 8 + 1) ls.length 3) (fR M 3 8 + 2) ls.length 0) (fR M 3 8 + 3) ls.length 0) (fR M 3 8 + 4) ls.length (zI M (fR M 3 8) 9)) (fR M 3 8 + 5) ls.length (zI M (fR M 3 8) 9)) := hC.1.ki.ki.ki.ki.ki
  have C5 : CSt B n (fR M 3 8) (wI (wI (wI (wI (wI M (fR M 3 8 + 1) ls.length 3) (fR M 3 8 + 2) ls.length 0) (fR M 3 8 + 3) ls.length 0) (fR M 3 8 + 4) ls.length (zI M (fR M 3 8) 9)) (fR M 3 8 + 5) ls.length (zI M (fR M 3 8) 9)) s := hC.frm S5 F1 (fun q _ r => by cases r) (fun b hb r => by
    simp only [List.mem_cons, List.not_mem_nil, or_false] at hb r
    omega)
  have E5 : ENq (wI (wI (wI (wI (wI M (fR M 3 8 + 1) ls.length 3) (fR M 3 8 + 2) ls.length 0) (fR M 3 8 + 3) ls.length 0) (fR M 3 8 + 4) ls.length (zI M (fR M 3 8) 9)) (fR M 3 8 + 5) ls.length (zI M (fR M 3 8) 9)) (fR M 3 8) ls.length 3 0 0 s.2.2.length := by
    refine ⟨?_, ?_, ?_, ?_⟩
    · rw [rN_wI_ne (fun q => by omega), rN_wI_ne (fun q => by omega), rN_wI_ne (fun q => by omega), rN_wI_ne (fun q => by omega), rN_wI_eq (by rw [(hC.1.1.row (fx_g0 ht) qw_29).2]; exact hl16)]
    · rw [rN_wI_ne (fun q => by omega), rN_wI_ne (fun q => by omega), rN_wI_ne (fun q => by omega), rN_wI_eq (by rw [(s1.1.row (fx_g1 ht) qw_30).2]; exact hl16)]
    · rw [rN_wI_ne (fun q => by omega), rN_wI_ne (fun q => by omega), rN_wI_eq (by rw [(s1.ki.1.row (fx_g2 ht) qw_31).2]; exact hl16)]
    · rw [rN_wI_ne (fun q => by omega), rN_wI_eq (by rw [(s1.ki.ki.1.row (fx_g3 ht) qw_32).2]; exact hl16)]
      exact hcs
  obtain ⟨p1, p2, p3, p4⟩ := fP_no hb.1
  obtain ⟨rfl, F2, C2⟩ := C5.go ht (by rw [hw]; decide) (by rw [hw]; decide) H1
  have P2 : PRE B n (fR M 3 8) M1 (s.1.tail, s.2.1, s.2.2) ls 3 0 s.2.2.length := ⟨C2, (hL.ui.ui.ui.ui.ui).frm F2 p2 p3, E5.frm F2 p4, (hF.frm F1 (fun q _ r => by cases r)).frm F2 p1, hl16⟩
  have F12 : FA (fLq (fR M 3 8)) (wLn (fR M 3 8)) M M1 := (F1.more (fun q hq => by cases hq) (fun q hq => by
    simp only [wLn, List.mem_cons, List.not_mem_nil, or_false] at hq ⊢
    rcases hq with h | h | h | h | h <;> simp [h])).trans F2.ln
  have h91 : fR M1 3 8 = fR M 3 8 := F12.fr (by simp [fLq]; omega)
  unfold bodB
  rw [if_neg (by decide : ¬ (3 : Int32) = 6), if_neg (by decide : ¬ (3 : Int32) = 5)]
  obtain ⟨e3, v3, M3, he, H3, H⟩ := ln3_147 C2.1 (by rw [h91]; exact ht) H
  cases he
  obtain ⟨F3, R3⟩ := nu3_ok ht P2 hL.1 hk H3
  have FX := F12.trans F3
  have h93 : fR M3 3 8 = fR M 3 8 := FX.fr (by simp [fLq]; omega)
  rcases R3 with ⟨q1, q2⟩ | ⟨q1, q2, q3⟩ | ⟨q1, q2, rfl, Q3⟩
  · unfold numB
    rw [if_pos q1]
    obtain ⟨rfl, S9, r9⟩ := q2
    rcases ln3_175 S9 (by rw [h93]; exact ht) H with ⟨_, h3, rfl⟩ | ⟨h3, _⟩ | ⟨h3, _⟩
    · exact ⟨FX, h3, S9, r9⟩
    · exact absurd rfl h3
    · exact absurd rfl h3
  · unfold numB
    rw [if_neg (fun q => q q1), if_pos q2]
    obtain ⟨rfl, S9, r9⟩ := q3
    rcases ln3_175 S9 (by rw [h93]; exact ht) H with ⟨_, h3, rfl⟩ | ⟨h3, _⟩ | ⟨h3, _⟩
    · exact ⟨FX, h3, S9, r9⟩
    · exact absurd rfl h3
    · exact absurd rfl h3
  · unfold numB
    rw [if_neg (fun q => q q1), if_neg q2]
    unfold cndB
    rw [if_neg (by decide : ¬ (3 : Int32) = 6), if_neg (fun q => absurd q.1 (by decide))]
    rcases ln3_175 Q3.1.1 (by rw [h93]; exact ht) H with ⟨h3, _⟩ | ⟨_, g4, g5⟩ | ⟨_, g4, g5⟩
    · exact absurd h3 (by decide)
    · obtain ⟨f7, r7⟩ := en3_ok ht Q3 hl16 hL.1 (Or.inl ⟨g4, g5⟩)
      exact ⟨FX.trans f7, r7⟩
    · obtain ⟨f7, r7⟩ := en3_ok ht Q3 hl16 hL.1 (Or.inr ⟨g4, g5⟩)
      exact ⟨FX.trans f7, r7⟩
theorem li4_ok {e : Nat} {v : Option Value} {a : Int32} (ht : gNth sT t = some 28) (hn2 : n ≤ 440) (hCL : CL B n t M s ls) (hw : (hdT s.1).1 = 2) (H : Ev none (e + 1) 33 44 [some (.ref 3), some (.int a), some (.int 4), none, none, none, none] [] M v M' 0 0) : FA (fLq t) (wLn t) M M' ∧ LNr B n t M' v (if 16 ≤ ls.length ∨ (onceB 4 = true ∧ hasK ls 4 = true) then .inr (3, (hdT s.1).2.1) else bodB B ((prS B e).1 1) (s.1.tail, s.2.1, s.2.2) ls 4) := by
  obtain ⟨hC, hL, hF⟩ := hCL
  have hb := tx_ge ht
  have h8 := hC.2.2.2.2.2.1
  have hcs := hC.2.2.2.2.2.2.1.1
  subst h8
  have hix : (zI M (fR M 3 8) 8).toNatClampNeg = ls.length := cl_n hL.1
  have o16 : (16 : Int32).toInt = 16 := rfl
  have h16 : (16 ≤ zI M (fR M 3 8) 8) ↔ 16 ≤ ls.length := by rw [Int32.le_iff_toInt_le, hL.1]; omega
  have bits := td_bits (hasK ls 2) (hasK ls 3) (hasK ls 4) (hasK ls 7)
  have htd : zI M 3 10 = tdB (hasK ls 2) (hasK ls 3) (hasK ls 4) (hasK ls 7) := hF.2.2.2.2
  rcases ln4_44 hC.1 ht H with ⟨g1, e1, v1, M1, he, H1, H⟩ | ⟨g1, g2, -, -, -, -, -, e1, v1, M1, he, H1, H⟩ | ⟨g1, g2, e1, v1, M1, he, H1, H⟩
  · rw [if_pos (Or.inl (h16.mp g1))]
    obtain ⟨f1, f2⟩ := hC.err (v := v) (M' := M') H1 (fun y hy S => by subst hy; exact ln4_72 S (by rw [(hC.fail H1).1.fr (by simp [fP])]; exact ht) H)
    exact ⟨f1.ln, f2⟩
  rotate_left
  · rw [htd] at g2
    have hk : hasK ls 4 = true := by
      cases hq : hasK ls 4 with
      | true => rfl
      | false => exact absurd (bits.2.2.1.mpr hq) g2
    rw [if_pos (Or.inr ⟨rfl, hk⟩)]
    obtain ⟨f1, f2⟩ := hC.err (v := v) (M' := M') H1 (fun y hy S => by subst hy; exact ln4_72 S (by rw [(hC.fail H1).1.fr (by simp [fP])]; exact ht) H)
    exact ⟨f1.ln, f2⟩
  rw [htd] at g2
  have hk : hasK ls 4 = false := bits.2.2.1.mp g2
  have hno : ¬ (16 ≤ ls.length ∨ (onceB 4 = true ∧ hasK ls 4 = true)) := fun q => q.elim (fun x => g1 (h16.mpr x)) (fun x => by rw [hk] at x; exact absurd x.2 (by decide))
  have hl16 : ls.length < 16 := by
    by_cases q : 16 ≤ ls.length
    · exact absurd (Or.inl q) hno
    · omega
  rw [if_neg hno]
  cases he
  rw [hix] at H1
  have s1 : SQ (wI M (fR M 3 8 + 1) ls.length 4) := hC.1.ki
  have F1 : FA [] [fR M 3 8 + 1, fR M 3 8 + 2, fR M 3 8 + 3, fR M 3 8 + 4, fR M 3 8 + 5] M (wI (wI (wI (wI (wI M (fR M 3 8 + 1) ls.length 4) (fR M 3 8 + 2) ls.length 0) (fR M 3 8 + 3) ls.length 0) (fR M 3 8 + 4) ls.length (zI M (fR M 3 8) 9)) (fR M 3 8 + 5) ls.length (zI M (fR M 3 8) 9)) := ((((FA.wI (by simp)).trans (FA.wI (by simp))).trans (FA.wI (by simp))).trans (FA.wI (by simp))).trans (FA.wI (by simp))
  have S5 : SQ (wI (wI (wI (wI (wI M (fR M 3 8 + 1) ls.length 4) (fR M 3 8 + 2) ls.length 0) (fR M 3 8 + 3) ls.length 0) (fR M 3 8 + 4) ls.length (zI M (fR M 3 8) 9)) (fR M 3 8 + 5) ls.length (zI M (fR M 3 8) 9)) := hC.1.ki.ki.ki.ki.ki
  have C5 : CSt B n (fR M 3 8) (wI (wI (wI (wI (wI M (fR M 3 8 + 1) ls.length 4) (fR M 3 8 + 2) ls.length 0) (fR M 3 8 + 3) ls.length 0) (fR M 3 8 + 4) ls.length (zI M (fR M 3 8) 9)) (fR M 3 8 + 5) ls.length (zI M (fR M 3 8) 9)) s := hC.frm S5 F1 (fun q _ r => by cases r) (fun b hb r => by
    simp only [List.mem_cons, List.not_mem_nil, or_false] at hb r
    omega)
  have E5 : ENq (wI (wI (wI (wI (wI M (fR M 3 8 + 1) ls.length 4) (fR M 3 8 + 2) ls.length 0) (fR M 3 8 + 3) ls.length 0) (fR M 3 8 + 4) ls.length (zI M (fR M 3 8) 9)) (fR M 3 8 + 5) ls.length (zI M (fR M 3 8) 9)) (fR M 3 8) ls.length 4 0 0 s.2.2.length := by
    refine ⟨?_, ?_, ?_, ?_⟩
    · rw [rN_wI_ne (fun q => by omega), rN_wI_ne (fun q => by omega), rN_wI_ne (fun q => by omega), rN_wI_ne (fun q => by omega), rN_wI_eq (by rw [(hC.1.1.row (fx_g0 ht) qw_29).2]; exact hl16)]
    · rw [rN_wI_ne (fun q => by omega), rN_wI_ne (fun q => by omega), rN_wI_ne (fun q => by omega), rN_wI_eq (by rw [(s1.1.row (fx_g1 ht) qw_30).2]; exact hl16)]
    · rw [rN_wI_ne (fun q => by omega), rN_wI_ne (fun q => by omega), rN_wI_eq (by rw [(s1.ki.1.row (fx_g2 ht) qw_31).2]; exact hl16)]
    · rw [rN_wI_ne (fun q => by omega), rN_wI_eq (by rw [(s1.ki.ki.1.row (fx_g3 ht) qw_32).2]; exact hl16)]
      exact hcs
  obtain ⟨p1, p2, p3, p4⟩ := fP_no hb.1
  obtain ⟨rfl, F2, C2⟩ := C5.go ht (by rw [hw]; decide) (by rw [hw]; decide) H1
  have P2 : PRE B n (fR M 3 8) M1 (s.1.tail, s.2.1, s.2.2) ls 4 0 s.2.2.length := ⟨C2, (hL.ui.ui.ui.ui.ui).frm F2 p2 p3, E5.frm F2 p4, (hF.frm F1 (fun q _ r => by cases r)).frm F2 p1, hl16⟩
  have F12 : FA (fLq (fR M 3 8)) (wLn (fR M 3 8)) M M1 := (F1.more (fun q hq => by cases hq) (fun q hq => by
    simp only [wLn, List.mem_cons, List.not_mem_nil, or_false] at hq ⊢
    rcases hq with h | h | h | h | h <;> simp [h])).trans F2.ln
  have h91 : fR M1 3 8 = fR M 3 8 := F12.fr (by simp [fLq]; omega)
  unfold bodB
  rw [if_neg (by decide : ¬ (4 : Int32) = 6), if_neg (by decide : ¬ (4 : Int32) = 5)]
  obtain ⟨e3, v3, M3, he, H3, H⟩ := ln4_147 C2.1 (by rw [h91]; exact ht) H
  cases he
  obtain ⟨F3, R3⟩ := nu4_ok ht P2 hL.1 hk H3
  have FX := F12.trans F3
  have h93 : fR M3 3 8 = fR M 3 8 := FX.fr (by simp [fLq]; omega)
  rcases R3 with ⟨q1, q2⟩ | ⟨q1, q2, q3⟩ | ⟨q1, q2, rfl, Q3⟩
  · unfold numB
    rw [if_pos q1]
    obtain ⟨rfl, S9, r9⟩ := q2
    rcases ln4_175 S9 (by rw [h93]; exact ht) H with ⟨_, h3, rfl⟩ | ⟨h3, _⟩ | ⟨h3, _⟩
    · exact ⟨FX, h3, S9, r9⟩
    · exact absurd rfl h3
    · exact absurd rfl h3
  · unfold numB
    rw [if_neg (fun q => q q1), if_pos q2]
    obtain ⟨rfl, S9, r9⟩ := q3
    rcases ln4_175 S9 (by rw [h93]; exact ht) H with ⟨_, h3, rfl⟩ | ⟨h3, _⟩ | ⟨h3, _⟩
    · exact ⟨FX, h3, S9, r9⟩
    · exact absurd rfl h3
    · exact absurd rfl h3
  · unfold numB
    rw [if_neg (fun q => q q1), if_neg q2]
    unfold cndB
    rw [if_neg (by decide : ¬ (4 : Int32) = 6), if_neg (fun q => absurd q.1 (by decide))]
    rcases ln4_175 Q3.1.1 (by rw [h93]; exact ht) H with ⟨h3, _⟩ | ⟨_, g4, g5⟩ | ⟨_, g4, g5⟩
    · exact absurd h3 (by decide)
    · obtain ⟨f7, r7⟩ := en4_ok ht Q3 hl16 hL.1 (Or.inl ⟨g4, g5⟩)
      exact ⟨FX.trans f7, r7⟩
    · obtain ⟨f7, r7⟩ := en4_ok ht Q3 hl16 hL.1 (Or.inr ⟨g4, g5⟩)
      exact ⟨FX.trans f7, r7⟩
theorem li5_ok {e : Nat} {v : Option Value} {a : Int32} (ht : gNth sT t = some 28) (hn2 : n ≤ 440) (hCL : CL B n t M s ls) (hw : (hdT s.1).1 = 2) (H : Ev none (e + 1) 33 44 [some (.ref 3), some (.int a), some (.int 5), none, none, none, none] [] M v M' 0 0) : FA (fLq t) (wLn t) M M' ∧ LNr B n t M' v (if 16 ≤ ls.length ∨ (onceB 5 = true ∧ hasK ls 5 = true) then .inr (3, (hdT s.1).2.1) else bodB B ((prS B e).1 1) (s.1.tail, s.2.1, s.2.2) ls 5) := by
  obtain ⟨hC, hL, hF⟩ := hCL
  have hb := tx_ge ht
  have h8 := hC.2.2.2.2.2.1
  have hcs := hC.2.2.2.2.2.2.1.1
  subst h8
  have hix : (zI M (fR M 3 8) 8).toNatClampNeg = ls.length := cl_n hL.1
  have o16 : (16 : Int32).toInt = 16 := rfl
  have h16 : (16 ≤ zI M (fR M 3 8) 8) ↔ 16 ≤ ls.length := by rw [Int32.le_iff_toInt_le, hL.1]; omega
  have bits := td_bits (hasK ls 2) (hasK ls 3) (hasK ls 4) (hasK ls 7)
  have htd : zI M 3 10 = tdB (hasK ls 2) (hasK ls 3) (hasK ls 4) (hasK ls 7) := hF.2.2.2.2
  rcases ln5_44 hC.1 ht H with ⟨g1, e1, v1, M1, he, H1, H⟩ | ⟨g1, g2, -, -, -, -, -, e1, v1, M1, he, H1, H⟩ | ⟨g1, g2, e1, v1, M1, he, H1, H⟩
  · rw [if_pos (Or.inl (h16.mp g1))]
    obtain ⟨f1, f2⟩ := hC.err (v := v) (M' := M') H1 (fun y hy S => by subst hy; exact ln5_72 S (by rw [(hC.fail H1).1.fr (by simp [fP])]; exact ht) H)
    exact ⟨f1.ln, f2⟩
  rotate_left
  · rw [htd] at g2
    exact absurd bits.2.2.2.2.2.2.1 g2
  have hno : ¬ (16 ≤ ls.length ∨ (onceB 5 = true ∧ hasK ls 5 = true)) := fun q => q.elim (fun x => g1 (h16.mpr x)) (fun x => absurd x.1 (by decide))
  have hl16 : ls.length < 16 := by
    by_cases q : 16 ≤ ls.length
    · exact absurd (Or.inl q) hno
    · omega
  rw [if_neg hno]
  cases he
  rw [hix] at H1
  have s1 : SQ (wI M (fR M 3 8 + 1) ls.length 5) := hC.1.ki
  have F1 : FA [] [fR M 3 8 + 1, fR M 3 8 + 2, fR M 3 8 + 3, fR M 3 8 + 4, fR M 3 8 + 5] M (wI (wI (wI (wI (wI M (fR M 3 8 + 1) ls.length 5) (fR M 3 8 + 2) ls.length 0) (fR M 3 8 + 3) ls.length 0) (fR M 3 8 + 4) ls.length (zI M (fR M 3 8) 9)) (fR M 3 8 + 5) ls.length (zI M (fR M 3 8) 9)) := ((((FA.wI (by simp)).trans (FA.wI (by simp))).trans (FA.wI (by simp))).trans (FA.wI (by simp))).trans (FA.wI (by simp))
  have S5 : SQ (wI (wI (wI (wI (wI M (fR M 3 8 + 1) ls.length 5) (fR M 3 8 + 2) ls.length 0) (fR M 3 8 + 3) ls.length 0) (fR M 3 8 + 4) ls.length (zI M (fR M 3 8) 9)) (fR M 3 8 + 5) ls.length (zI M (fR M 3 8) 9)) := hC.1.ki.ki.ki.ki.ki
  have C5 : CSt B n (fR M 3 8) (wI (wI (wI (wI (wI M (fR M 3 8 + 1) ls.length 5) (fR M 3 8 + 2) ls.length 0) (fR M 3 8 + 3) ls.length 0) (fR M 3 8 + 4) ls.length (zI M (fR M 3 8) 9)) (fR M 3 8 + 5) ls.length (zI M (fR M 3 8) 9)) s := hC.frm S5 F1 (fun q _ r => by cases r) (fun b hb r => by
    simp only [List.mem_cons, List.not_mem_nil, or_false] at hb r
    omega)
  have E5 : ENq (wI (wI (wI (wI (wI M (fR M 3 8 + 1) ls.length 5) (fR M 3 8 + 2) ls.length 0) (fR M 3 8 + 3) ls.length 0) (fR M 3 8 + 4) ls.length (zI M (fR M 3 8) 9)) (fR M 3 8 + 5) ls.length (zI M (fR M 3 8) 9)) (fR M 3 8) ls.length 5 0 0 s.2.2.length := by
    refine ⟨?_, ?_, ?_, ?_⟩
    · rw [rN_wI_ne (fun q => by omega), rN_wI_ne (fun q => by omega), rN_wI_ne (fun q => by omega), rN_wI_ne (fun q => by omega), rN_wI_eq (by rw [(hC.1.1.row (fx_g0 ht) qw_29).2]; exact hl16)]
    · rw [rN_wI_ne (fun q => by omega), rN_wI_ne (fun q => by omega), rN_wI_ne (fun q => by omega), rN_wI_eq (by rw [(s1.1.row (fx_g1 ht) qw_30).2]; exact hl16)]
    · rw [rN_wI_ne (fun q => by omega), rN_wI_ne (fun q => by omega), rN_wI_eq (by rw [(s1.ki.1.row (fx_g2 ht) qw_31).2]; exact hl16)]
    · rw [rN_wI_ne (fun q => by omega), rN_wI_eq (by rw [(s1.ki.ki.1.row (fx_g3 ht) qw_32).2]; exact hl16)]
      exact hcs
  obtain ⟨p1, p2, p3, p4⟩ := fP_no hb.1
  obtain ⟨rfl, F2, C2⟩ := C5.go ht (by rw [hw]; decide) (by rw [hw]; decide) H1
  have P2 : PRE B n (fR M 3 8) M1 (s.1.tail, s.2.1, s.2.2) ls 5 0 s.2.2.length := ⟨C2, (hL.ui.ui.ui.ui.ui).frm F2 p2 p3, E5.frm F2 p4, (hF.frm F1 (fun q _ r => by cases r)).frm F2 p1, hl16⟩
  have F12 : FA (fLq (fR M 3 8)) (wLn (fR M 3 8)) M M1 := (F1.more (fun q hq => by cases hq) (fun q hq => by
    simp only [wLn, List.mem_cons, List.not_mem_nil, or_false] at hq ⊢
    rcases hq with h | h | h | h | h <;> simp [h])).trans F2.ln
  have h91 : fR M1 3 8 = fR M 3 8 := F12.fr (by simp [fLq]; omega)
  unfold bodB
  rw [if_neg (by decide : ¬ (5 : Int32) = 6), if_pos rfl]
  obtain ⟨e3, v3, M3, he, H3, H⟩ := ln5_147 C2.1 (by rw [h91]; exact ht) H
  cases he
  obtain ⟨F3, R3⟩ := wg_ok ht hn2 P2 hL.1 H3
  have FX := F12.trans F3
  have h93 : fR M3 3 8 = fR M 3 8 := FX.fr (by simp [fLq]; omega)
  rcases R3 with ⟨q1, q2⟩ | ⟨q0, ⟨q1, q2⟩ | ⟨q1, q2, q3⟩ | ⟨q1, q2, rfl, Q3⟩⟩
  · rw [if_pos q1]
    obtain ⟨rfl, S9, r9⟩ := q2
    rcases ln5_163 S9 (by rw [h93]; exact ht) H with ⟨_, h3, rfl⟩ | ⟨h3, _⟩
    · exact ⟨FX, h3, S9, r9⟩
    · exact absurd rfl h3
  · rw [if_neg q0]
    unfold numB
    rw [if_pos q1]
    obtain ⟨rfl, S9, r9⟩ := q2
    rcases ln5_163 S9 (by rw [h93]; exact ht) H with ⟨_, h3, rfl⟩ | ⟨h3, _⟩
    · exact ⟨FX, h3, S9, r9⟩
    · exact absurd rfl h3
  · rw [if_neg q0]
    unfold numB
    rw [if_neg (fun q => q q1), if_pos q2]
    obtain ⟨rfl, S9, r9⟩ := q3
    rcases ln5_163 S9 (by rw [h93]; exact ht) H with ⟨_, h3, rfl⟩ | ⟨h3, _⟩
    · exact ⟨FX, h3, S9, r9⟩
    · exact absurd rfl h3
  · rw [if_neg q0]
    unfold numB
    rw [if_neg (fun q => q q1), if_neg q2]
    rcases ln5_163 Q3.1.1 (by rw [h93]; exact ht) H with ⟨h3, _⟩ | ⟨_, e4, v4, M4, he, H4, H⟩
    · exact absurd h3 (by decide)
    cases he
    obtain ⟨rfl, rfl⟩ := amq_all (ws := [ifW]) Q3.1.1 hn2 Q3.1.2.2.1 rfl (by decide) (List.cons_ne_nil _ _) (by decide) (by decide) H4
    rw [Q3.1.wd] at H
    have hx : ∀ w : List Int32, ixF w [ifW] 0 = if w = ifW then 0 else -1 := fun w => rfl
    unfold cndB
    rw [if_neg (by decide : ¬ (5 : Int32) = 6)]
    by_cases hw2 : wdS B (hdT ((s.1.tail.tail.tail, s.2.1, s.2.2) : Sg).1) = ifW
    · rw [hx, if_pos (by exact hw2)] at H
      rw [if_pos ⟨by decide, hw2⟩]
      have h2t := wd_ne hw2 (by decide)
      rcases ln5_224 Q3.1.1 (by rw [h93]; exact ht) H with ⟨_, e5, v5, M5, he, H5, H⟩ | ⟨h3, _⟩ | ⟨h3, _⟩
      rotate_left
      · exact absurd rfl h3
      · exact absurd rfl h3
      obtain ⟨rfl, F5, Q5⟩ := Q3.go ht (by rw [show (hdT ((s.1.tail.tail.tail, s.2.1, s.2.2) : Sg).1).1 = 2 from h2t]; decide) (by rw [show (hdT ((s.1.tail.tail.tail, s.2.1, s.2.2) : Sg).1).1 = 2 from h2t]; decide) H5
      have h95 : fR M5 3 8 = fR M 3 8 := Q5.1.2.2.2.2.2.1
      obtain ⟨e6, v6, M6, he, H6, H⟩ := ln5_243 Q5.1.1 (by rw [h95]; exact ht) H
      cases he
      obtain ⟨F6, R6⟩ := Q5.con ht hn2 H6
      have FY := (FX.trans F5).trans F6
      have h96 : fR M6 3 8 = fR M 3 8 := FY.fr (by simp [fLq]; omega)
      cases hr : (prS B e).1 1 (((s.1.tail.tail.tail, s.2.1, s.2.2) : Sg).1.tail, ((s.1.tail.tail.tail, s.2.1, s.2.2) : Sg).2.1, ((s.1.tail.tail.tail, s.2.1, s.2.2) : Sg).2.2) with
      | inr f =>
        rw [hr] at R6
        obtain ⟨rfl, S9, r9⟩ := R6
        rcases ln5_259 S9 (by rw [h96]; exact ht) H with ⟨_, h3, rfl⟩ | ⟨h3, _⟩ | ⟨h3, _⟩
        · exact ⟨FY, h3, S9, r9⟩
        · exact absurd rfl h3
        · exact absurd rfl h3
      | inl s2 =>
        rw [hr] at R6
        obtain ⟨rfl, Q6⟩ := R6
        rcases ln5_259 Q6.1.1 (by rw [h96]; exact ht) H with ⟨h3, _⟩ | ⟨_, g4, g5⟩ | ⟨_, g4, g5⟩
        · exact absurd h3 (by decide)
        · obtain ⟨f7, r7⟩ := en5_ok ht Q6 hl16 hL.1 (Or.inl ⟨g4, g5⟩)
          exact ⟨FY.trans f7, r7⟩
        · obtain ⟨f7, r7⟩ := en5_ok ht Q6 hl16 hL.1 (Or.inr ⟨g4, g5⟩)
          exact ⟨FY.trans f7, r7⟩
    · rw [hx, if_neg (by exact hw2)] at H
      rw [if_neg (fun q => hw2 q.2)]
      rcases ln5_224 Q3.1.1 (by rw [h93]; exact ht) H with ⟨h3, _⟩ | ⟨_, g4, g5⟩ | ⟨_, g4, g5⟩
      · exact absurd h3 (by decide)
      · obtain ⟨f7, r7⟩ := en5_ok ht Q3 hl16 hL.1 (Or.inl ⟨g4, g5⟩)
        exact ⟨FX.trans f7, r7⟩
      · obtain ⟨f7, r7⟩ := en5_ok ht Q3 hl16 hL.1 (Or.inr ⟨g4, g5⟩)
        exact ⟨FX.trans f7, r7⟩
theorem li6_ok {e : Nat} {v : Option Value} {a : Int32} (ht : gNth sT t = some 28) (hn2 : n ≤ 440) (hCL : CL B n t M s ls) (hw : (hdT s.1).1 = 2) (H : Ev none (e + 1) 33 44 [some (.ref 3), some (.int a), some (.int 6), none, none, none, none] [] M v M' 0 0) : FA (fLq t) (wLn t) M M' ∧ LNr B n t M' v (if 16 ≤ ls.length ∨ (onceB 6 = true ∧ hasK ls 6 = true) then .inr (3, (hdT s.1).2.1) else bodB B ((prS B e).1 1) (s.1.tail, s.2.1, s.2.2) ls 6) := by
  obtain ⟨hC, hL, hF⟩ := hCL
  have hb := tx_ge ht
  have h8 := hC.2.2.2.2.2.1
  have hcs := hC.2.2.2.2.2.2.1.1
  subst h8
  have hix : (zI M (fR M 3 8) 8).toNatClampNeg = ls.length := cl_n hL.1
  have o16 : (16 : Int32).toInt = 16 := rfl
  have h16 : (16 ≤ zI M (fR M 3 8) 8) ↔ 16 ≤ ls.length := by rw [Int32.le_iff_toInt_le, hL.1]; omega
  have bits := td_bits (hasK ls 2) (hasK ls 3) (hasK ls 4) (hasK ls 7)
  have htd : zI M 3 10 = tdB (hasK ls 2) (hasK ls 3) (hasK ls 4) (hasK ls 7) := hF.2.2.2.2
  rcases ln6_44 hC.1 ht H with ⟨g1, e1, v1, M1, he, H1, H⟩ | ⟨g1, g2, -, -, -, -, -, e1, v1, M1, he, H1, H⟩ | ⟨g1, g2, e1, v1, M1, he, H1, H⟩
  · rw [if_pos (Or.inl (h16.mp g1))]
    obtain ⟨f1, f2⟩ := hC.err (v := v) (M' := M') H1 (fun y hy S => by subst hy; exact ln6_72 S (by rw [(hC.fail H1).1.fr (by simp [fP])]; exact ht) H)
    exact ⟨f1.ln, f2⟩
  rotate_left
  · rw [htd] at g2
    exact absurd bits.2.2.2.2.2.2.2.1 g2
  have hno : ¬ (16 ≤ ls.length ∨ (onceB 6 = true ∧ hasK ls 6 = true)) := fun q => q.elim (fun x => g1 (h16.mpr x)) (fun x => absurd x.1 (by decide))
  have hl16 : ls.length < 16 := by
    by_cases q : 16 ≤ ls.length
    · exact absurd (Or.inl q) hno
    · omega
  rw [if_neg hno]
  cases he
  rw [hix] at H1
  have s1 : SQ (wI M (fR M 3 8 + 1) ls.length 6) := hC.1.ki
  have F1 : FA [] [fR M 3 8 + 1, fR M 3 8 + 2, fR M 3 8 + 3, fR M 3 8 + 4, fR M 3 8 + 5] M (wI (wI (wI (wI (wI M (fR M 3 8 + 1) ls.length 6) (fR M 3 8 + 2) ls.length 0) (fR M 3 8 + 3) ls.length 0) (fR M 3 8 + 4) ls.length (zI M (fR M 3 8) 9)) (fR M 3 8 + 5) ls.length (zI M (fR M 3 8) 9)) := ((((FA.wI (by simp)).trans (FA.wI (by simp))).trans (FA.wI (by simp))).trans (FA.wI (by simp))).trans (FA.wI (by simp))
  have S5 : SQ (wI (wI (wI (wI (wI M (fR M 3 8 + 1) ls.length 6) (fR M 3 8 + 2) ls.length 0) (fR M 3 8 + 3) ls.length 0) (fR M 3 8 + 4) ls.length (zI M (fR M 3 8) 9)) (fR M 3 8 + 5) ls.length (zI M (fR M 3 8) 9)) := hC.1.ki.ki.ki.ki.ki
  have C5 : CSt B n (fR M 3 8) (wI (wI (wI (wI (wI M (fR M 3 8 + 1) ls.length 6) (fR M 3 8 + 2) ls.length 0) (fR M 3 8 + 3) ls.length 0) (fR M 3 8 + 4) ls.length (zI M (fR M 3 8) 9)) (fR M 3 8 + 5) ls.length (zI M (fR M 3 8) 9)) s := hC.frm S5 F1 (fun q _ r => by cases r) (fun b hb r => by
    simp only [List.mem_cons, List.not_mem_nil, or_false] at hb r
    omega)
  have E5 : ENq (wI (wI (wI (wI (wI M (fR M 3 8 + 1) ls.length 6) (fR M 3 8 + 2) ls.length 0) (fR M 3 8 + 3) ls.length 0) (fR M 3 8 + 4) ls.length (zI M (fR M 3 8) 9)) (fR M 3 8 + 5) ls.length (zI M (fR M 3 8) 9)) (fR M 3 8) ls.length 6 0 0 s.2.2.length := by
    refine ⟨?_, ?_, ?_, ?_⟩
    · rw [rN_wI_ne (fun q => by omega), rN_wI_ne (fun q => by omega), rN_wI_ne (fun q => by omega), rN_wI_ne (fun q => by omega), rN_wI_eq (by rw [(hC.1.1.row (fx_g0 ht) qw_29).2]; exact hl16)]
    · rw [rN_wI_ne (fun q => by omega), rN_wI_ne (fun q => by omega), rN_wI_ne (fun q => by omega), rN_wI_eq (by rw [(s1.1.row (fx_g1 ht) qw_30).2]; exact hl16)]
    · rw [rN_wI_ne (fun q => by omega), rN_wI_ne (fun q => by omega), rN_wI_eq (by rw [(s1.ki.1.row (fx_g2 ht) qw_31).2]; exact hl16)]
    · rw [rN_wI_ne (fun q => by omega), rN_wI_eq (by rw [(s1.ki.ki.1.row (fx_g3 ht) qw_32).2]; exact hl16)]
      exact hcs
  obtain ⟨p1, p2, p3, p4⟩ := fP_no hb.1
  obtain ⟨rfl, F2, C2⟩ := C5.go ht (by rw [hw]; decide) (by rw [hw]; decide) H1
  have P2 : PRE B n (fR M 3 8) M1 (s.1.tail, s.2.1, s.2.2) ls 6 0 s.2.2.length := ⟨C2, (hL.ui.ui.ui.ui.ui).frm F2 p2 p3, E5.frm F2 p4, (hF.frm F1 (fun q _ r => by cases r)).frm F2 p1, hl16⟩
  have F12 : FA (fLq (fR M 3 8)) (wLn (fR M 3 8)) M M1 := (F1.more (fun q hq => by cases hq) (fun q hq => by
    simp only [wLn, List.mem_cons, List.not_mem_nil, or_false] at hq ⊢
    rcases hq with h | h | h | h | h <;> simp [h])).trans F2.ln
  have h91 : fR M1 3 8 = fR M 3 8 := F12.fr (by simp [fLq]; omega)
  unfold bodB cndB
  rw [if_pos rfl, if_pos rfl]
  obtain ⟨e3, v3, M3, he, H3, H⟩ := ln6_147 C2.1 (by rw [h91]; exact ht) H
  cases he
  obtain ⟨F3, R3⟩ := P2.mid6.con ht hn2 H3
  have FX := F12.trans F3
  have h93 : fR M3 3 8 = fR M 3 8 := FX.fr (by simp [fLq]; omega)
  cases hr : (prS B e).1 1 (s.1.tail, s.2.1, s.2.2) with
  | inr f =>
    rw [hr] at R3
    obtain ⟨rfl, S9, r9⟩ := R3
    rcases ln6_259 S9 (by rw [h93]; exact ht) H with ⟨_, h3, rfl⟩ | ⟨h3, _⟩ | ⟨h3, _⟩
    · exact ⟨FX, h3, S9, r9⟩
    · exact absurd rfl h3
    · exact absurd rfl h3
  | inl s2 =>
    rw [hr] at R3
    obtain ⟨rfl, Q3⟩ := R3
    rcases ln6_259 Q3.1.1 (by rw [h93]; exact ht) H with ⟨h3, _⟩ | ⟨_, g4, g5⟩ | ⟨_, g4, g5⟩
    · exact absurd h3 (by decide)
    · obtain ⟨f7, r7⟩ := en6_ok ht Q3 hl16 hL.1 (Or.inl ⟨g4, g5⟩)
      exact ⟨FX.trans f7, r7⟩
    · obtain ⟨f7, r7⟩ := en6_ok ht Q3 hl16 hL.1 (Or.inr ⟨g4, g5⟩)
      exact ⟨FX.trans f7, r7⟩
theorem li7_ok {e : Nat} {v : Option Value} {a : Int32} (ht : gNth sT t = some 28) (hn2 : n ≤ 440) (hCL : CL B n t M s ls) (hw : (hdT s.1).1 = 2) (H : Ev none (e + 1) 33 44 [some (.ref 3), some (.int a), some (.int 7), none, none, none, none] [] M v M' 0 0) : FA (fLq t) (wLn t) M M' ∧ LNr B n t M' v (if 16 ≤ ls.length ∨ (onceB 7 = true ∧ hasK ls 7 = true) then .inr (3, (hdT s.1).2.1) else bodB B ((prS B e).1 1) (s.1.tail, s.2.1, s.2.2) ls 7) := by
  obtain ⟨hC, hL, hF⟩ := hCL
  have hb := tx_ge ht
  have h8 := hC.2.2.2.2.2.1
  have hcs := hC.2.2.2.2.2.2.1.1
  subst h8
  have hix : (zI M (fR M 3 8) 8).toNatClampNeg = ls.length := cl_n hL.1
  have o16 : (16 : Int32).toInt = 16 := rfl
  have h16 : (16 ≤ zI M (fR M 3 8) 8) ↔ 16 ≤ ls.length := by rw [Int32.le_iff_toInt_le, hL.1]; omega
  have bits := td_bits (hasK ls 2) (hasK ls 3) (hasK ls 4) (hasK ls 7)
  have htd : zI M 3 10 = tdB (hasK ls 2) (hasK ls 3) (hasK ls 4) (hasK ls 7) := hF.2.2.2.2
  rcases ln7_44 hC.1 ht H with ⟨g1, e1, v1, M1, he, H1, H⟩ | ⟨g1, g2, -, -, -, -, -, e1, v1, M1, he, H1, H⟩ | ⟨g1, g2, e1, v1, M1, he, H1, H⟩
  · rw [if_pos (Or.inl (h16.mp g1))]
    obtain ⟨f1, f2⟩ := hC.err (v := v) (M' := M') H1 (fun y hy S => by subst hy; exact ln7_72 S (by rw [(hC.fail H1).1.fr (by simp [fP])]; exact ht) H)
    exact ⟨f1.ln, f2⟩
  rotate_left
  · rw [htd] at g2
    have hk : hasK ls 7 = true := by
      cases hq : hasK ls 7 with
      | true => rfl
      | false => exact absurd (bits.2.2.2.1.mpr hq) g2
    rw [if_pos (Or.inr ⟨rfl, hk⟩)]
    obtain ⟨f1, f2⟩ := hC.err (v := v) (M' := M') H1 (fun y hy S => by subst hy; exact ln7_72 S (by rw [(hC.fail H1).1.fr (by simp [fP])]; exact ht) H)
    exact ⟨f1.ln, f2⟩
  rw [htd] at g2
  have hk : hasK ls 7 = false := bits.2.2.2.1.mp g2
  have hno : ¬ (16 ≤ ls.length ∨ (onceB 7 = true ∧ hasK ls 7 = true)) := fun q => q.elim (fun x => g1 (h16.mpr x)) (fun x => by rw [hk] at x; exact absurd x.2 (by decide))
  have hl16 : ls.length < 16 := by
    by_cases q : 16 ≤ ls.length
    · exact absurd (Or.inl q) hno
    · omega
  rw [if_neg hno]
  cases he
  rw [hix] at H1
  have s1 : SQ (wI M (fR M 3 8 + 1) ls.length 7) := hC.1.ki
  have F1 : FA [] [fR M 3 8 + 1, fR M 3 8 + 2, fR M 3 8 + 3, fR M 3 8 + 4, fR M 3 8 + 5] M (wI (wI (wI (wI (wI M (fR M 3 8 + 1) ls.length 7) (fR M 3 8 + 2) ls.length 0) (fR M 3 8 + 3) ls.length 0) (fR M 3 8 + 4) ls.length (zI M (fR M 3 8) 9)) (fR M 3 8 + 5) ls.length (zI M (fR M 3 8) 9)) := ((((FA.wI (by simp)).trans (FA.wI (by simp))).trans (FA.wI (by simp))).trans (FA.wI (by simp))).trans (FA.wI (by simp))
  have S5 : SQ (wI (wI (wI (wI (wI M (fR M 3 8 + 1) ls.length 7) (fR M 3 8 + 2) ls.length 0) (fR M 3 8 + 3) ls.length 0) (fR M 3 8 + 4) ls.length (zI M (fR M 3 8) 9)) (fR M 3 8 + 5) ls.length (zI M (fR M 3 8) 9)) := hC.1.ki.ki.ki.ki.ki
  have C5 : CSt B n (fR M 3 8) (wI (wI (wI (wI (wI M (fR M 3 8 + 1) ls.length 7) (fR M 3 8 + 2) ls.length 0) (fR M 3 8 + 3) ls.length 0) (fR M 3 8 + 4) ls.length (zI M (fR M 3 8) 9)) (fR M 3 8 + 5) ls.length (zI M (fR M 3 8) 9)) s := hC.frm S5 F1 (fun q _ r => by cases r) (fun b hb r => by
    simp only [List.mem_cons, List.not_mem_nil, or_false] at hb r
    omega)
  have E5 : ENq (wI (wI (wI (wI (wI M (fR M 3 8 + 1) ls.length 7) (fR M 3 8 + 2) ls.length 0) (fR M 3 8 + 3) ls.length 0) (fR M 3 8 + 4) ls.length (zI M (fR M 3 8) 9)) (fR M 3 8 + 5) ls.length (zI M (fR M 3 8) 9)) (fR M 3 8) ls.length 7 0 0 s.2.2.length := by
    refine ⟨?_, ?_, ?_, ?_⟩
    · rw [rN_wI_ne (fun q => by omega), rN_wI_ne (fun q => by omega), rN_wI_ne (fun q => by omega), rN_wI_ne (fun q => by omega), rN_wI_eq (by rw [(hC.1.1.row (fx_g0 ht) qw_29).2]; exact hl16)]
    · rw [rN_wI_ne (fun q => by omega), rN_wI_ne (fun q => by omega), rN_wI_ne (fun q => by omega), rN_wI_eq (by rw [(s1.1.row (fx_g1 ht) qw_30).2]; exact hl16)]
    · rw [rN_wI_ne (fun q => by omega), rN_wI_ne (fun q => by omega), rN_wI_eq (by rw [(s1.ki.1.row (fx_g2 ht) qw_31).2]; exact hl16)]
    · rw [rN_wI_ne (fun q => by omega), rN_wI_eq (by rw [(s1.ki.ki.1.row (fx_g3 ht) qw_32).2]; exact hl16)]
      exact hcs
  obtain ⟨p1, p2, p3, p4⟩ := fP_no hb.1
  obtain ⟨rfl, F2, C2⟩ := C5.go ht (by rw [hw]; decide) (by rw [hw]; decide) H1
  have P2 : PRE B n (fR M 3 8) M1 (s.1.tail, s.2.1, s.2.2) ls 7 0 s.2.2.length := ⟨C2, (hL.ui.ui.ui.ui.ui).frm F2 p2 p3, E5.frm F2 p4, (hF.frm F1 (fun q _ r => by cases r)).frm F2 p1, hl16⟩
  have F12 : FA (fLq (fR M 3 8)) (wLn (fR M 3 8)) M M1 := (F1.more (fun q hq => by cases hq) (fun q hq => by
    simp only [wLn, List.mem_cons, List.not_mem_nil, or_false] at hq ⊢
    rcases hq with h | h | h | h | h <;> simp [h])).trans F2.ln
  have h91 : fR M1 3 8 = fR M 3 8 := F12.fr (by simp [fLq]; omega)
  unfold bodB
  rw [if_neg (by decide : ¬ (7 : Int32) = 6), if_neg (by decide : ¬ (7 : Int32) = 5)]
  obtain ⟨e3, v3, M3, he, H3, H⟩ := ln7_147 C2.1 (by rw [h91]; exact ht) H
  cases he
  obtain ⟨F3, R3⟩ := nu7_ok ht P2 hL.1 hk H3
  have FX := F12.trans F3
  have h93 : fR M3 3 8 = fR M 3 8 := FX.fr (by simp [fLq]; omega)
  rcases R3 with ⟨q1, q2⟩ | ⟨q1, q2, q3⟩ | ⟨q1, q2, rfl, Q3⟩
  · unfold numB
    rw [if_pos q1]
    obtain ⟨rfl, S9, r9⟩ := q2
    rcases ln7_175 S9 (by rw [h93]; exact ht) H with ⟨_, h3, rfl⟩ | ⟨h3, _⟩ | ⟨h3, _⟩
    · exact ⟨FX, h3, S9, r9⟩
    · exact absurd rfl h3
    · exact absurd rfl h3
  · unfold numB
    rw [if_neg (fun q => q q1), if_pos q2]
    obtain ⟨rfl, S9, r9⟩ := q3
    rcases ln7_175 S9 (by rw [h93]; exact ht) H with ⟨_, h3, rfl⟩ | ⟨h3, _⟩ | ⟨h3, _⟩
    · exact ⟨FX, h3, S9, r9⟩
    · exact absurd rfl h3
    · exact absurd rfl h3
  · unfold numB
    rw [if_neg (fun q => q q1), if_neg q2]
    unfold cndB
    rw [if_neg (by decide : ¬ (7 : Int32) = 6), if_neg (fun q => absurd q.1 (by decide))]
    rcases ln7_175 Q3.1.1 (by rw [h93]; exact ht) H with ⟨h3, _⟩ | ⟨_, g4, g5⟩ | ⟨_, g4, g5⟩
    · exact absurd h3 (by decide)
    · obtain ⟨f7, r7⟩ := en7_ok ht Q3 hl16 hL.1 (Or.inl ⟨g4, g5⟩)
      exact ⟨FX.trans f7, r7⟩
    · obtain ⟨f7, r7⟩ := en7_ok ht Q3 hl16 hL.1 (Or.inr ⟨g4, g5⟩)
      exact ⟨FX.trans f7, r7⟩
end LIX
