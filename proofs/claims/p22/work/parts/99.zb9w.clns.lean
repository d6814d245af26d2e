/-! THE CLASS'S LINES (made by glin2.py) -/
def LNr (B : Nat → Int32) (n t : Nat) (M' : Mem) (v : Option Value) (r : PLn) : Prop := match r with
  | .inr f => ERt M' v f
  | .inl q => v = some (.int 1) ∧ CL B n t M' q.1 q.2
section LIN
variable {n t : Nat} {B : Nat → Int32} {M M' : Mem} {s : Sg} {ls : List Lnq}
theorem tv_to {x m nu k d : Int32} {fr a b : Nat} : tvS (ls ++ [(x, m, nu, fr, a)]) k d = tvS (ls ++ [(x, m, nu, fr, b)]) k d := by
  unfold tvS
  rw [List.find?_append, List.find?_append]
  cases List.find? (fun l => decide (l.1 = k)) ls with
  | some l => rfl
  | none =>
    by_cases h : x = k
    · rw [List.find?_cons_of_pos (by exact decide_eq_true h), List.find?_cons_of_pos (by exact decide_eq_true h)]
      rfl
    · rw [List.find?_cons_of_neg (by exact fun q => absurd (of_decide_eq_true q) h), List.find?_cons_of_neg (by exact fun q => absurd (of_decide_eq_true q) h)]
theorem FTq.to {x m nu : Int32} {fr a b : Nat} (h : FTq M t (ls ++ [(x, m, nu, fr, a)])) : FTq M t (ls ++ [(x, m, nu, fr, b)]) := by
  obtain ⟨h1, h2, h3, h4, h5⟩ := h
  exact ⟨h1.trans tv_to, h2.trans tv_to, h3.trans tv_to, h4.trans tv_to, by rw [h5, tdS_app, tdS_app]⟩
theorem LCt.add {l : Lnq} {to : Int32} {tn : Nat} (hS : SQ M) (ht : gNth sT t = some 28) (h : LCt M t ls) (hE : ENq M t ls.length l.1 l.2.1 l.2.2.1 l.2.2.2.1) (h16 : ls.length < 16) (hto : to.toInt = (tn : Int)) : LCt (wF (wI M (t + 5) ls.length to) t 8 (zI M t 8 + 1)) t (ls ++ [(l.1, l.2.1, l.2.2.1, l.2.2.2.1, tn)]) := by
  have hu := h.ui (a := t + 5) (x := to)
  refine ⟨?_, by rw [List.length_append]; exact h16, fun j l2 hj => ?_⟩
  · rw [fI_wF_eq hS.ki.1 ht qi_28_8, i32_p1 (by have := h.1; omega), h.1, List.length_append]
    rfl
  · rw [rN_wF, rN_wF, rN_wF, rN_wF, rN_wF]
    by_cases hj2 : j = ls.length
    · subst hj2
      rw [List.getElem?_append_right (Nat.le_refl _), Nat.sub_self] at hj
      cases hj
      rw [rN_wI_ne (fun q => by omega), rN_wI_ne (fun q => by omega), rN_wI_ne (fun q => by omega), rN_wI_ne (fun q => by omega), rN_wI_eq (by rw [(hS.1.row (fx_g4 ht) qw_33).2]; exact h16)]
      exact ⟨hE.1, hE.2.1, hE.2.2.1, hE.2.2.2, hto⟩
    · have hlt : j < ls.length := by
        have h1 := (List.getElem?_eq_some_iff.mp hj).1
        rw [List.length_append] at h1
        have h1 : j < ls.length + 1 := h1
        omega
      rw [List.getElem?_append_left hlt] at hj
      exact hu.2.2 j l2 hj
theorem MID.h16 {l : Lnq} (h : MID B n t M s ls l) (hl : ls.length < 16) : ls.length < 16 := hl
theorem fin_ok {x m nu : Int32} {fr : Nat} {i : Int32} {v : Option Value} (ht : gNth sT t = some 28) (h : MID B n t M s ls (x, m, nu, fr, 0)) (hl : ls.length < 16) (hi : i.toInt = (ls.length : Int)) (h1 : v = some (.int 1)) (h2 : M' = wF (wI M (fR M 3 8 + 5) i.toNatClampNeg (zI M (fR M 3 8) 9)) (fR M 3 8) 8 (zI M (fR M 3 8) 8 + 1)) : FA (fLq t) (wLn t) M M' ∧ LNr B n t M' v (.inl (s, ls ++ [(x, m, nu, fr, s.2.2.length)])) := by
  obtain ⟨hC, hL, hE, hF⟩ := h
  have hb := tx_ge ht
  have h8 := hC.2.2.2.2.2.1
  have hcs := hC.2.2.2.2.2.2.1.1
  subst h8
  have hix : i.toNatClampNeg = ls.length := cl_n hi
  rw [hix] at h2
  have hL2 := hL.add hC.1 ht hE hl hcs
  subst h2
  have F1 : FA [(fR M 3 8, 8)] [fR M 3 8 + 5] M (wF (wI M (fR M 3 8 + 5) ls.length (zI M (fR M 3 8) 9)) (fR M 3 8) 8 (zI M (fR M 3 8) 8 + 1)) := (FA.wI (by simp)).trans (FA.wF (by simp))
  refine ⟨F1.more (fun q hq => ?_) (fun q hq => ?_), h1, hC.frm hC.1.ki.kf F1 (fun q hq r => ?_) (fun b hb r => ?_), hL2, (hF.frm F1 (fun q hq r => ?_)).to⟩
  · simp only [fLq, List.mem_cons, List.not_mem_nil, or_false] at hq ⊢
    simp [hq]
  · simp only [wLn, List.mem_cons, List.not_mem_nil, or_false] at hq ⊢
    simp [hq]
  · simp only [List.mem_cons, List.not_mem_nil, or_false] at hq r
    rcases hq with rfl | rfl | rfl | rfl | rfl | rfl | rfl <;> simp only [Prod.mk.injEq] at r <;> omega
  · simp only [List.mem_cons, List.not_mem_nil, or_false] at hb r
    omega
  · simp only [List.mem_cons, List.not_mem_nil, or_false] at hq r
    rcases hq with rfl | rfl | rfl | rfl | rfl <;> simp only [Prod.mk.injEq] at r <;> omega
theorem MID.go {l : Lnq} {e : Nat} {v : Option Value} (ht : gNth sT t = some 28) (h : MID B n t M s ls l) (h0 : (hdT s.1).1 ≠ 0) (h1 : (hdT s.1).1 ≠ 1) (H : Ev none e 31 0 [some (.ref 3)] [] M v M' 0 0) : v = none ∧ FA (fLq t) (wLn t) M M' ∧ MID B n t M' (s.1.tail, s.2.1, s.2.2) ls l := by
  obtain ⟨hC, hL, hE, hF⟩ := h
  have hb := tx_ge ht
  obtain ⟨p1, p2, p3, p4⟩ := fP_no hb.1
  obtain ⟨g1, g2, g3⟩ := hC.go ht h0 h1 H
  exact ⟨g1, g2.ln, g3, hL.frm g2 p2 p3, hE.frm g2 p4, hF.frm g2 p1⟩
theorem MID.con {l : Lnq} {e : Nat} {v : Option Value} (ht : gNth sT t = some 28) (hn2 : n ≤ 440) (h : MID B n t M s ls l) (H : Ev none e 36 0 [some (.ref 3), some (.int 1), none] [] M v M' 0 0) : FA (fLq t) (wLn t) M M' ∧ (match (prS B e).1 1 s with
  | .inr f => ERt M' v f
  | .inl s2 => v = some (.int 1) ∧ MID B n t M' s2 ls l) := by
  obtain ⟨hC, hL, hE, hF⟩ := h
  have hb := tx_ge ht
  obtain ⟨p1, p2, p3, p4⟩ := fP_no hb.1
  obtain ⟨F1, R1⟩ := (cc_main ht hn2 e).1 1 1 s M M' v rfl (by omega) hC H
  refine ⟨F1.ln, ?_⟩
  cases hr : (prS B e).1 1 s with
  | inr f =>
    rw [hr] at R1
    exact RS_err R1
  | inl s2 =>
    rw [hr] at R1
    obtain ⟨r1, r2⟩ := RS_ok R1
    exact ⟨r1, r2, hL.frm F1 p2 p3, hE.frm F1 p4, hF.frm F1 p1⟩
/-- a measure and a number -/
theorem wg_ok {e : Nat} {v : Option Value} {i : Int32} {fr : Nat} (ht : gNth sT t = some 28) (hn2 : n ≤ 440) (hP : PRE B n t M s ls 5 0 fr) (hi : i.toInt = (ls.length : Int)) (H : Ev none e 34 0 [some (.ref 3), some (.int i), none] [] M v M' 0 0) : FA (fLq t) (wLn t) M M' ∧ ((ixF (wdS B (hdT s.1)) meaW 0 < 0 ∧ ERt M' v (1, (hdT s.1).2.1)) ∨ (¬ ixF (wdS B (hdT s.1)) meaW 0 < 0 ∧ NUr B n t M' v (s.1.tail, s.2.1, s.2.2) ls 5 (ixF (wdS B (hdT s.1)) meaW 0) fr)) := by
  obtain ⟨hC, hL, hE, hF, hl16⟩ := hP
  have hb := tx_ge ht
  have h8 := hC.2.2.2.2.2.1
  subst h8
  obtain ⟨e1, v1, M1, rfl, H1, H⟩ := wg_0 hC.1 ht H
  obtain ⟨rfl, rfl⟩ := amq_all (ws := meaW) hC.1 hn2 hC.2.2.1 rfl (by decide) (List.cons_ne_nil _ _) (by decide) (by decide) H1
  rw [hC.wd] at H
  generalize ha : ixF (wdS B (hdT s.1)) meaW 0 = a at H ⊢
  have hneg : a < 0 ↔ ¬ 0 ≤ a := by rw [Int32.lt_iff_toInt_lt, Int32.le_iff_toInt_le]; omega
  have hix : i.toNatClampNeg = ls.length := cl_n hi
  rcases wg_6 hC.1 ht H with ⟨g1, -, e2, v2, M2, he, H2, H⟩ | ⟨g1, e2, v2, M2, he, H2, H⟩
  · rw [hix] at H2
    have hty : (hdT s.1).1 = 2 := by
      rcases ixF_bd (w := wdS B (hdT s.1)) meaW 0 (by decide) (by decide) with q | ⟨_, _, q3⟩
      · rw [ha] at q
        rw [q] at g1
        exact absurd g1 (by decide)
      · exact wd_ne (B := B) (u := wdS B (hdT s.1)) rfl (fun x => by rw [x] at q3; revert q3; decide)
    have F1 : FA [] [fR M1 3 8 + 2] M1 (wI M1 (fR M1 3 8 + 2) ls.length a) := FA.wI (by simp)
    have hlen : ls.length < (zrw M1 (fR M1 3 8 + 2)).length := by rw [(hC.1.1.row (fx_g1 ht) qw_30).2]; exact hl16
    have E3 : ENq (wI M1 (fR M1 3 8 + 2) ls.length a) (fR M1 3 8) ls.length 5 a 0 fr := ⟨by rw [rN_wI_ne (fun q => by omega)]; exact hE.1, by rw [rN_wI_eq hlen], by rw [rN_wI_ne (fun q => by omega)]; exact hE.2.2.1, by rw [rN_wI_ne (fun q => by omega)]; exact hE.2.2.2⟩
    have C3 : CSt B n (fR M1 3 8) (wI M1 (fR M1 3 8 + 2) ls.length a) s := hC.frm hC.1.ki F1 (fun q _ r => by cases r) (fun b hb r => by
      simp only [List.mem_cons, List.not_mem_nil, or_false] at hb r
      omega)
    obtain ⟨p1, p2, p3, p4⟩ := fP_no hb.1
    obtain ⟨rfl, F4, C4⟩ := C3.go ht (by rw [hty]; decide) (by rw [hty]; decide) H2
    have P4 : PRE B n (fR M1 3 8) M2 (s.1.tail, s.2.1, s.2.2) ls 5 a fr := ⟨C4, (hL.ui (a := fR M1 3 8 + 2) (x := a)).frm F4 p2 p3, E3.frm F4 p4, (hF.frm F1 (fun q _ r => by cases r)).frm F4 p1, hl16⟩
    have hr4 : fR M2 3 8 = fR M1 3 8 := by rw [F4.fr (by simp [fP]), F1.fr (by simp)]
    obtain ⟨e3, v3, M3, he, H3, H⟩ := wg_31 C4.1 (by rw [hr4]; exact ht) H
    obtain ⟨F5, R5⟩ := nu5_ok ht P4 hi H3
    have FX : FA (fLq (fR M1 3 8)) (wLn (fR M1 3 8)) M1 M3 := ((F1.more (fun q hq => by cases hq) (fun q hq => by
      simp only [wLn, List.mem_cons, List.not_mem_nil, or_false] at hq ⊢
      simp [hq])).trans F4.ln).trans F5
    have hr5 : fR M3 3 8 = fR M1 3 8 := FX.fr (by simp [fLq]; omega)
    rcases R5 with ⟨q1, q2⟩ | ⟨q1, q2, q3⟩ | ⟨q1, q2, rfl, q4⟩
    · obtain ⟨rfl, S9, r9⟩ := q2
      obtain ⟨r1, rfl⟩ := wg_37 S9 (by rw [hr5]; exact ht) H
      exact ⟨FX, Or.inr ⟨fun x => (hneg.mp x) g1, Or.inl ⟨q1, r1, S9, r9⟩⟩⟩
    · obtain ⟨rfl, S9, r9⟩ := q3
      obtain ⟨r1, rfl⟩ := wg_37 S9 (by rw [hr5]; exact ht) H
      exact ⟨FX, Or.inr ⟨fun x => (hneg.mp x) g1, Or.inr (Or.inl ⟨q1, q2, r1, S9, r9⟩)⟩⟩
    · obtain ⟨r1, rfl⟩ := wg_37 q4.1.1 (by rw [hr5]; exact ht) H
      exact ⟨FX, Or.inr ⟨fun x => (hneg.mp x) g1, Or.inr (Or.inr ⟨q1, q2, r1, q4⟩)⟩⟩
  · obtain ⟨f1, f2⟩ := hC.err (v := v) (M' := M') H2 (fun y hy S => by subst hy; exact wg_16 S (by rw [(hC.fail H2).1.fr (by simp [fP])]; exact ht) H)
    exact ⟨f1.ln, Or.inl ⟨hneg.mpr g1, f2⟩⟩
theorem en0_ok {e : Nat} {v : Option Value} {a i m nu : Int32} {fr : Nat} {c5 c6 : Option Value} (ht : gNth sT t = some 28) (h : MID B n t M s ls (0, m, nu, fr, 0)) (hl : ls.length < 16) (hi : i.toInt = (ls.length : Int)) (H : (zI M 3 7 = 59 ∧ ∃ e1 v1 M1, e = e1 + 1 ∧ Ev none e1 31 0 [some (.ref 3)] [] M v1 M1 0 0 ∧ Ev none e 33 283 [some (.ref 3), some (.int a), some (.int 0), some (.int i), some (.int 1), c5, c6] (v1.toList ++ []) M1 v M' 0 0) ∨ (¬ (zI M 3 7 = 59) ∧ ∃ e1 v1 M1, e = e1 + 1 ∧ Ev none e1 27 0 [some (.ref 3), some (.int 1)] [] M v1 M1 0 0 ∧ Ev none e 33 278 [some (.ref 3), some (.int a), some (.int 0), some (.int i), some (.int 1), c5, c6] (v1.toList ++ []) M1 v M' 0 0)) : FA (fLq t) (wLn t) M M' ∧ LNr B n t M' v (endB s ls 0 m nu fr) := by
  have c5' := h.1.2.2.1.at.2.2.2.2.1
  have h8 := h.1.2.2.2.2.2.1
  unfold endB
  rcases H with ⟨g1, e1, v1, M1, rfl, H1, H⟩ | ⟨g1, e1, v1, M1, rfl, H1, H⟩
  · rw [c5'] at g1
    rw [if_neg (fun q => q g1)]
    obtain ⟨rfl, F1, Q1⟩ := h.go ht (by rw [g1]; decide) (by rw [g1]; decide) H1
    have h9 : fR M1 3 8 = t := Q1.1.2.2.2.2.2.1
    obtain ⟨-, r1, r2⟩ := ln0_283 Q1.1.1 (by rw [h9]; exact ht) H
    obtain ⟨F2, R2⟩ := fin_ok ht Q1 hl hi r1 r2
    exact ⟨F1.trans F2, R2⟩
  · rw [c5'] at g1
    rw [if_pos g1]
    obtain ⟨f1, f2⟩ := h.1.err (v := v) (M' := M') H1 (fun y hy S => by subst hy; exact ln0_278 S (by rw [(h.1.fail H1).1.fr (by simp [fP]), h8]; exact ht) H)
    exact ⟨f1.ln, f2⟩
theorem en1_ok {e : Nat} {v : Option Value} {a i m nu : Int32} {fr : Nat} {c5 c6 : Option Value} (ht : gNth sT t = some 28) (h : MID B n t M s ls (1, m, nu, fr, 0)) (hl : ls.length < 16) (hi : i.toInt = (ls.length : Int)) (H : (zI M 3 7 = 59 ∧ ∃ e1 v1 M1, e = e1 + 1 ∧ Ev none e1 31 0 [some (.ref 3)] [] M v1 M1 0 0 ∧ Ev none e 33 283 [some (.ref 3), some (.int a), some (.int 1), some (.int i), some (.int 1), c5, c6] (v1.toList ++ []) M1 v M' 0 0) ∨ (¬ (zI M 3 7 = 59) ∧ ∃ e1 v1 M1, e = e1 + 1 ∧ Ev none e1 27 0 [some (.ref 3), some (.int 1)] [] M v1 M1 0 0 ∧ Ev none e 33 278 [some (.ref 3), some (.int a), some (.int 1), some (.int i), some (.int 1), c5, c6] (v1.toList ++ []) M1 v M' 0 0)) : FA (fLq t) (wLn t) M M' ∧ LNr B n t M' v (endB s ls 1 m nu fr) := by
  have c5' := h.1.2.2.1.at.2.2.2.2.1
  have h8 := h.1.2.2.2.2.2.1
  unfold endB
  rcases H with ⟨g1, e1, v1, M1, rfl, H1, H⟩ | ⟨g1, e1, v1, M1, rfl, H1, H⟩
  · rw [c5'] at g1
    rw [if_neg (fun q => q g1)]
    obtain ⟨rfl, F1, Q1⟩ := h.go ht (by rw [g1]; decide) (by rw [g1]; decide) H1
    have h9 : fR M1 3 8 = t := Q1.1.2.2.2.2.2.1
    obtain ⟨-, r1, r2⟩ := ln1_283 Q1.1.1 (by rw [h9]; exact ht) H
    obtain ⟨F2, R2⟩ := fin_ok ht Q1 hl hi r1 r2
    exact ⟨F1.trans F2, R2⟩
  · rw [c5'] at g1
    rw [if_pos g1]
    obtain ⟨f1, f2⟩ := h.1.err (v := v) (M' := M') H1 (fun y hy S => by subst hy; exact ln1_278 S (by rw [(h.1.fail H1).1.fr (by simp [fP]), h8]; exact ht) H)
    exact ⟨f1.ln, f2⟩
theorem en2_ok {e : Nat} {v : Option Value} {a i m nu : Int32} {fr : Nat} {c5 c6 : Option Value} (ht : gNth sT t = some 28) (h : MID B n t M s ls (2, m, nu, fr, 0)) (hl : ls.length < 16) (hi : i.toInt = (ls.length : Int)) (H : (zI M 3 7 = 59 ∧ ∃ e1 v1 M1, e = e1 + 1 ∧ Ev none e1 31 0 [some (.ref 3)] [] M v1 M1 0 0 ∧ Ev none e 33 283 [some (.ref 3), some (.int a), some (.int 2), some (.int i), some (.int 1), c5, c6] (v1.toList ++ []) M1 v M' 0 0) ∨ (¬ (zI M 3 7 = 59) ∧ ∃ e1 v1 M1, e = e1 + 1 ∧ Ev none e1 27 0 [some (.ref 3), some (.int 1)] [] M v1 M1 0 0 ∧ Ev none e 33 278 [some (.ref 3), some (.int a), some (.int 2), some (.int i), some (.int 1), c5, c6] (v1.toList ++ []) M1 v M' 0 0)) : FA (fLq t) (wLn t) M M' ∧ LNr B n t M' v (endB s ls 2 m nu fr) := by
  have c5' := h.1.2.2.1.at.2.2.2.2.1
  have h8 := h.1.2.2.2.2.2.1
  unfold endB
  rcases H with ⟨g1, e1, v1, M1, rfl, H1, H⟩ | ⟨g1, e1, v1, M1, rfl, H1, H⟩
  · rw [c5'] at g1
    rw [if_neg (fun q => q g1)]
    obtain ⟨rfl, F1, Q1⟩ := h.go ht (by rw [g1]; decide) (by rw [g1]; decide) H1
    have h9 : fR M1 3 8 = t := Q1.1.2.2.2.2.2.1
    obtain ⟨-, r1, r2⟩ := ln2_283 Q1.1.1 (by rw [h9]; exact ht) H
    obtain ⟨F2, R2⟩ := fin_ok ht Q1 hl hi r1 r2
    exact ⟨F1.trans F2, R2⟩
  · rw [c5'] at g1
    rw [if_pos g1]
    obtain ⟨f1, f2⟩ := h.1.err (v := v) (M' := M') H1 (fun y hy S => by subst hy; exact ln2_278 S (by rw [(h.1.fail H1).1.fr (by simp [fP]), h8]; exact ht) H)
    exact ⟨f1.ln, f2⟩
theorem en3_ok {e : Nat} {v : Option Value} {a i m nu : Int32} {fr : Nat} {c5 c6 : Option Value} (ht : gNth sT t = some 28) (h : MID B n t M s ls (3, m, nu, fr, 0)) (hl : ls.length < 16) (hi : i.toInt = (ls.length : Int)) (H : (zI M 3 7 = 59 ∧ ∃ e1 v1 M1, e = e1 + 1 ∧ Ev none e1 31 0 [some (.ref 3)] [] M v1 M1 0 0 ∧ Ev none e 33 283 [some (.ref 3), some (.int a), some (.int 3), some (.int i), some (.int 1), c5, c6] (v1.toList ++ []) M1 v M' 0 0) ∨ (¬ (zI M 3 7 = 59) ∧ ∃ e1 v1 M1, e = e1 + 1 ∧ Ev none e1 27 0 [some (.ref 3), some (.int 1)] [] M v1 M1 0 0 ∧ Ev none e 33 278 [some (.ref 3), some (.int a), some (.int 3), some (.int i), some (.int 1), c5, c6] (v1.toList ++ []) M1 v M' 0 0)) : FA (fLq t) (wLn t) M M' ∧ LNr B n t M' v (endB s ls 3 m nu fr) := by
  have c5' := h.1.2.2.1.at.2.2.2.2.1
  have h8 := h.1.2.2.2.2.2.1
  unfold endB
  rcases H with ⟨g1, e1, v1, M1, rfl, H1, H⟩ | ⟨g1, e1, v1, M1, rfl, H1, H⟩
  · rw [c5'] at g1
    rw [if_neg (fun q => q g1)]
    obtain ⟨rfl, F1, Q1⟩ := h.go ht (by rw [g1]; decide) (by rw [g1]; decide) H1
    have h9 : fR M1 3 8 = t := Q1.1.2.2.2.2.2.1
    obtain ⟨-, r1, r2⟩ := ln3_283 Q1.1.1 (by rw [h9]; exact ht) H
    obtain ⟨F2, R2⟩ := fin_ok ht Q1 hl hi r1 r2
    exact ⟨F1.trans F2, R2⟩
  · rw [c5'] at g1
    rw [if_pos g1]
    obtain ⟨f1, f2⟩ := h.1.err (v := v) (M' := M') H1 (fun y hy S => by subst hy; exact ln3_278 S (by rw [(h.1.fail H1).1.fr (by simp [fP]), h8]; exact ht) H)
    exact ⟨f1.ln, f2⟩
theorem en4_ok {e : Nat} {v : Option Value} {a i m nu : Int32} {fr : Nat} {c5 c6 : Option Value} (ht : gNth sT t = some 28) (h : MID B n t M s ls (4, m, nu, fr, 0)) (hl : ls.length < 16) (hi : i.toInt = (ls.length : Int)) (H : (zI M 3 7 = 59 ∧ ∃ e1 v1 M1, e = e1 + 1 ∧ Ev none e1 31 0 [some (.ref 3)] [] M v1 M1 0 0 ∧ Ev none e 33 283 [some (.ref 3), some (.int a), some (.int 4), some (.int i), some (.int 1), c5, c6] (v1.toList ++ []) M1 v M' 0 0) ∨ (¬ (zI M 3 7 = 59) ∧ ∃ e1 v1 M1, e = e1 + 1 ∧ Ev none e1 27 0 [some (.ref 3), some (.int 1)] [] M v1 M1 0 0 ∧ Ev none e 33 278 [some (.ref 3), some (.int a), some (.int 4), some (.int i), some (.int 1), c5, c6] (v1.toList ++ []) M1 v M' 0 0)) : FA (fLq t) (wLn t) M M' ∧ LNr B n t M' v (endB s ls 4 m nu fr) := by
  have c5' := h.1.2.2.1.at.2.2.2.2.1
  have h8 := h.1.2.2.2.2.2.1
  unfold endB
  rcases H with ⟨g1, e1, v1, M1, rfl, H1, H⟩ | ⟨g1, e1, v1, M1, rfl, H1, H⟩
  · rw [c5'] at g1
    rw [if_neg (fun q => q g1)]
    obtain ⟨rfl, F1, Q1⟩ := h.go ht (by rw [g1]; decide) (by rw [g1]; decide) H1
    have h9 : fR M1 3 8 = t := Q1.1.2.2.2.2.2.1
    obtain ⟨-, r1, r2⟩ := ln4_283 Q1.1.1 (by rw [h9]; exact ht) H
    obtain ⟨F2, R2⟩ := fin_ok ht Q1 hl hi r1 r2
    exact ⟨F1.trans F2, R2⟩
  · rw [c5'] at g1
    rw [if_pos g1]
    obtain ⟨f1, f2⟩ := h.1.err (v := v) (M' := M') H1 (fun y hy S => by subst hy; exact ln4_278 S (by rw [(h.1.fail H1).1.fr (by simp [fP]), h8]; exact ht) H)
    exact ⟨f1.ln, f2⟩
theorem en5_ok {e : Nat} {v : Option Value} {a i m nu : Int32} {fr : Nat} {c5 c6 : Option Value} (ht : gNth sT t = some 28) (h : MID B n t M s ls (5, m, nu, fr, 0)) (hl : ls.length < 16) (hi : i.toInt = (ls.length : Int)) (H : (zI M 3 7 = 59 ∧ ∃ e1 v1 M1, e = e1 + 1 ∧ Ev none e1 31 0 [some (.ref 3)] [] M v1 M1 0 0 ∧ Ev none e 33 283 [some (.ref 3), some (.int a), some (.int 5), some (.int i), some (.int 1), c5, c6] (v1.toList ++ []) M1 v M' 0 0) ∨ (¬ (zI M 3 7 = 59) ∧ ∃ e1 v1 M1, e = e1 + 1 ∧ Ev none e1 27 0 [some (.ref 3), some (.int 1)] [] M v1 M1 0 0 ∧ Ev none e 33 278 [some (.ref 3), some (.int a), some (.int 5), some (.int i), some (.int 1), c5, c6] (v1.toList ++ []) M1 v M' 0 0)) : FA (fLq t) (wLn t) M M' ∧ LNr B n t M' v (endB s ls 5 m nu fr) := by
  have c5' := h.1.2.2.1.at.2.2.2.2.1
  have h8 := h.1.2.2.2.2.2.1
  unfold endB
  rcases H with ⟨g1, e1, v1, M1, rfl, H1, H⟩ | ⟨g1, e1, v1, M1, rfl, H1, H⟩
  · rw [c5'] at g1
    rw [if_neg (fun q => q g1)]
    obtain ⟨rfl, F1, Q1⟩ := h.go ht (by rw [g1]; decide) (by rw [g1]; decide) H1
    have h9 : fR M1 3 8 = t := Q1.1.2.2.2.2.2.1
    obtain ⟨-, r1, r2⟩ := ln5_283 Q1.1.1 (by rw [h9]; exact ht) H
    obtain ⟨F2, R2⟩ := fin_ok ht Q1 hl hi r1 r2
    exact ⟨F1.trans F2, R2⟩
  · rw [c5'] at g1
    rw [if_pos g1]
    obtain ⟨f1, f2⟩ := h.1.err (v := v) (M' := M') H1 (fun y hy S => by subst hy; exact ln5_278 S (by rw [(h.1.fail H1).1.fr (by simp [fP]), h8]; exact ht) H)
    exact ⟨f1.ln, f2⟩
theorem en6_ok {e : Nat} {v : Option Value} {a i m nu : Int32} {fr : Nat} {c5 c6 : Option Value} (ht : gNth sT t = some 28) (h : MID B n t M s ls (6, m, nu, fr, 0)) (hl : ls.length < 16) (hi : i.toInt = (ls.length : Int)) (H : (zI M 3 7 = 59 ∧ ∃ e1 v1 M1, e = e1 + 1 ∧ Ev none e1 31 0 [some (.ref 3)] [] M v1 M1 0 0 ∧ Ev none e 33 283 [some (.ref 3), some (.int a), some (.int 6), some (.int i), some (.int 1), c5, c6] (v1.toList ++ []) M1 v M' 0 0) ∨ (¬ (zI M 3 7 = 59) ∧ ∃ e1 v1 M1, e = e1 + 1 ∧ Ev none e1 27 0 [some (.ref 3), some (.int 1)] [] M v1 M1 0 0 ∧ Ev none e 33 278 [some (.ref 3), some (.int a), some (.int 6), some (.int i), some (.int 1), c5, c6] (v1.toList ++ []) M1 v M' 0 0)) : FA (fLq t) (wLn t) M M' ∧ LNr B n t M' v (endB s ls 6 m nu fr) := by
  have c5' := h.1.2.2.1.at.2.2.2.2.1
  have h8 := h.1.2.2.2.2.2.1
  unfold endB
  rcases H with ⟨g1, e1, v1, M1, rfl, H1, H⟩ | ⟨g1, e1, v1, M1, rfl, H1, H⟩
  · rw [c5'] at g1
    rw [if_neg (fun q => q g1)]
    obtain ⟨rfl, F1, Q1⟩ := h.go ht (by rw [g1]; decide) (by rw [g1]; decide) H1
    have h9 : fR M1 3 8 = t := Q1.1.2.2.2.2.2.1
    obtain ⟨-, r1, r2⟩ := ln6_283 Q1.1.1 (by rw [h9]; exact ht) H
    obtain ⟨F2, R2⟩ := fin_ok ht Q1 hl hi r1 r2
    exact ⟨F1.trans F2, R2⟩
  · rw [c5'] at g1
    rw [if_pos g1]
    obtain ⟨f1, f2⟩ := h.1.err (v := v) (M' := M') H1 (fun y hy S => by subst hy; exact ln6_278 S (by rw [(h.1.fail H1).1.fr (by simp [fP]), h8]; exact ht) H)
    exact ⟨f1.ln, f2⟩
theorem en7_ok {e : Nat} {v : Option Value} {a i m nu : Int32} {fr : Nat} {c5 c6 : Option Value} (ht : gNth sT t = some 28) (h : MID B n t M s ls (7, m, nu, fr, 0)) (hl : ls.length < 16) (hi : i.toInt = (ls.length : Int)) (H : (zI M 3 7 = 59 ∧ ∃ e1 v1 M1, e = e1 + 1 ∧ Ev none e1 31 0 [some (.ref 3)] [] M v1 M1 0 0 ∧ Ev none e 33 283 [some (.ref 3), some (.int a), some (.int 7), some (.int i), some (.int 1), c5, c6] (v1.toList ++ []) M1 v M' 0 0) ∨ (¬ (zI M 3 7 = 59) ∧ ∃ e1 v1 M1, e = e1 + 1 ∧ Ev none e1 27 0 [some (.ref 3), some (.int 1)] [] M v1 M1 0 0 ∧ Ev none e 33 278 [some (.ref 3), some (.int a), some (.int 7), some (.int i), some (.int 1), c5, c6] (v1.toList ++ []) M1 v M' 0 0)) : FA (fLq t) (wLn t) M M' ∧ LNr B n t M' v (endB s ls 7 m nu fr) := by
  have c5' := h.1.2.2.1.at.2.2.2.2.1
  have h8 := h.1.2.2.2.2.2.1
  unfold endB
  rcases H with ⟨g1, e1, v1, M1, rfl, H1, H⟩ | ⟨g1, e1, v1, M1, rfl, H1, H⟩
  · rw [c5'] at g1
    rw [if_neg (fun q => q g1)]
    obtain ⟨rfl, F1, Q1⟩ := h.go ht (by rw [g1]; decide) (by rw [g1]; decide) H1
    have h9 : fR M1 3 8 = t := Q1.1.2.2.2.2.2.1
    obtain ⟨-, r1, r2⟩ := ln7_283 Q1.1.1 (by rw [h9]; exact ht) H
    obtain ⟨F2, R2⟩ := fin_ok ht Q1 hl hi r1 r2
    exact ⟨F1.trans F2, R2⟩
  · rw [c5'] at g1
    rw [if_pos g1]
    obtain ⟨f1, f2⟩ := h.1.err (v := v) (M' := M') H1 (fun y hy S => by subst hy; exact ln7_278 S (by rw [(h.1.fail H1).1.fr (by simp [fP]), h8]; exact ht) H)
    exact ⟨f1.ln, f2⟩
end LIN
