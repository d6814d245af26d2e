/-! THE REFERENCE'S line, kind by kind (made by glr2.py) -/
def BDr (B : Nat → Int32) (n : Nat) (M M' : Mem) (v : Option Value) (ls : List Lnq) (k : Int32) (r : PBd) : Prop := match r with
  | .inl f => FLq M M' v f
  | .inr q => v = some (.int 1) ∧ FB fQl wQl M M' ∧ R0 B n M' q.1 ∧ LQ M' ls ∧ ER M' (112 + ls.length) k q.2.1 q.2.2.1 q.2.2.2 ∧ (rN M' 644 (112 + ls.length)).toInt = (q.1.2.2.length : Int)
section LQK
variable {e n kk : Nat} {M M1 M' : Mem} {v : Option Value} {B : Nat → Int32} {s : Sg} {ls : List Lnq}
theorem BDr.pre {k : Int32} {r : PBd} (h : FB fQl wQl M M1) (h2 : BDr B n M1 M' v ls k r) : BDr B n M M' v ls k r := by
  cases r with
  | inl f => exact FLq.pre h h2
  | inr q => exact ⟨h2.1, h.trans h2.2.1, h2.2.2⟩
theorem fin_r {k m nu : Int32} {fr : Nat} (h : R0 B n M s) (hL : LQ M ls) (hlt : ls.length < 16) (hE : ER M (112 + ls.length) k m nu fr) : BDr B n M (wI M 644 (112 + ls.length) (zI M 633 19)) (some (.int 1)) ls k (.inr (s, m, nu, fr)) := by
  have F1 : FB [] [644] M (wI M 644 (112 + ls.length) (zI M 633 19)) := FB.wI (by simp)
  refine ⟨rfl, F1.more (fun _ hq => by cases hq) (by decide), h.frm h.1.ki F1 (by decide) (by decide), hL.wr (by decide), hE.frm F1 (by decide), ?_⟩
  rw [rN_wI_eq (by rw [(r_len h.1).2.2.2.2]; omega)]
  exact h.2.2.2.2.2.2.2.1.1
theorem st_r {k m nu : Int32} (h : R0 B n M s) (hL : LQ M ls) (hlt : ls.length < 16) (g0 : rN M 640 (112 + ls.length) = k) (g1 : rN M 641 (112 + ls.length) = m) (g2 : zI M 633 32 = nu) : FB fQl wQl M (wI (wI M 642 (112 + ls.length) (zI M 633 32)) 643 (112 + ls.length) (zI M 633 19)) ∧ R0 B n (wI (wI M 642 (112 + ls.length) (zI M 633 32)) 643 (112 + ls.length) (zI M 633 19)) s ∧ LQ (wI (wI M 642 (112 + ls.length) (zI M 633 32)) 643 (112 + ls.length) (zI M 633 19)) ls ∧ ER (wI (wI M 642 (112 + ls.length) (zI M 633 32)) 643 (112 + ls.length) (zI M 633 19)) (112 + ls.length) k m nu s.2.2.length := by
  have F1 : FB [] [642, 643] M (wI (wI M 642 (112 + ls.length) (zI M 633 32)) 643 (112 + ls.length) (zI M 633 19)) := (FB.wI (by simp)).trans (FB.wI (by simp))
  refine ⟨F1.more (fun _ hq => by cases hq) (by decide), h.frm h.1.ki.ki F1 (by decide) (by decide), ?_, ?_, ?_, ?_, ?_⟩
  · exact LQ.wr (LQ.wr hL (by decide)) (by decide)
  · rw [F1.rn (by decide)]; exact g0
  · rw [F1.rn (by decide)]; exact g1
  · rw [rN_wI_ne (fun q => absurd q.1 (by decide)), rN_wI_eq (by rw [(r_len h.1).2.2.1]; omega)]
    exact g2
  · rw [rN_wI_eq (by rw [(r_len h.1.ki).2.2.2.1]; omega)]
    exact h.2.2.2.2.2.2.2.1.1
theorem clI {i : Int32} {p : Nat} (hi : i.toInt = (p : Int)) : i.toNatClampNeg = p := by
  show i.toInt.toNat = p
  omega
theorem cq0_ok {i m nu : Int32} {c3 : Option Value} (hn2 : n ≤ 440) (hk : 33 ≤ kk) (h : R0 B n M s) (h40 : s.2.1 ≤ 40) (hL : LQ M ls) (hlt : ls.length < 16) (hi : i.toInt = ((112 + ls.length : Nat) : Int)) (g0 : rN M 640 (112 + ls.length) = 0) (g1 : rN M 641 (112 + ls.length) = m) (g2 : zI M 633 32 = nu) (H : Ev none e 170 75 [some (.ref 633), some (.int i), some (.int 0), c3] [.int 1] M v M' 0 0) : BDr B n M M' v ls 0 (cnR B ((prS B kk).1 1) s 0 m nu) := by
  obtain ⟨S1, S2, S3, S4⟩ := st_r h hL hlt g0 g1 g2
  have hI := clI hi
  have e19 : zI (wI (wI M 642 (112 + ls.length) (zI M 633 32)) 643 (112 + ls.length) (zI M 633 19)) 633 19 = zI M 633 19 := by rw [fI_wI, fI_wI]
  unfold cnR cndR
  rw [if_neg (by decide)]
  rcases rlq0_75 h.1 H with ⟨q, _⟩ | ⟨_, g, _, _, _, rfl, rfl⟩ | ⟨_, g, _, _, e1, v1, M1, he, H1, H⟩
  · exact absurd q (by decide)
  · rw [hI] at g ⊢
    rcases S2.2.2.2.1.word (u := ifW) (C := 26982) S2.2.2.2.2.2.1 (by decide) (by decide) with ⟨q1, _⟩ | ⟨_, q2⟩
    · rw [g] at q1
      exact absurd q1 (by decide)
    · rw [if_neg (fun q => q2 q.2)]
      have R := fin_r S2 S3 hlt S4
      rw [e19] at R
      exact R.pre S1
  · rw [hI] at g H1
    rcases S2.2.2.2.1.word (u := ifW) (C := 26982) S2.2.2.2.2.2.1 (by decide) (by decide) with ⟨_, q2⟩ | ⟨q1, _⟩
    · rw [if_pos ⟨by decide, q2⟩]
      have q3 := ix_wd (B := B) (tk := hdT s.1) (ws := [ifW]) (by decide) (by decide) (by
        rw [q2]
        decide)
      obtain ⟨rfl, f1, r1⟩ := S2.next hn2 (by rw [q3]; decide) (by rw [q3]; decide) H1
      obtain ⟨e2, v2, M2, he2, H2, H⟩ := rlq0_140 r1.1 H
      have R := rcond_ok hn2 hk r1 h40 H2
      have f1q : FB fQl wQl M M1 := S1.trans f1.ql
      cases hr : ((prS B kk).1 1) (s.1.tail, s.2.1, s.2.2) with
      | inr f =>
        rw [hr] at R
        obtain ⟨rfl, f2⟩ := R
        rcases rlq0_150 f2.1 H with ⟨_, rfl, rfl⟩ | ⟨q, _⟩
        · exact FLq.pre f1q (FLT.ql ⟨rfl, f2⟩)
        · exact absurd rfl q
      | inl s2 =>
        rw [hr] at R
        obtain ⟨rfl, f2, r2⟩ := R
        rcases rlq0_150 r2.1 H with ⟨q, _⟩ | ⟨_, _, rfl, rfl⟩
        · exact absurd q (by decide)
        · rw [hI]
          exact (fin_r r2 ((S3.frm f1 (by decide)).frm f2 (by decide)) hlt ((S4.frm f1 (by decide)).frm f2 (by decide))).pre (f1q.trans f2.ql)
    · exact absurd q1 g
theorem nq0_ok {i m : Int32} {e1 : Nat} {v1 c3 : Option Value} (hn2 : n ≤ 440) (hk : 33 ≤ kk) (h : R0 B n M s) (h40 : s.2.1 ≤ 40) (hL : LQ M ls) (hlt : ls.length < 16) (hi : i.toInt = ((112 + ls.length : Nat) : Int)) (g0 : rN M 640 (112 + ls.length) = 0) (g1 : rN M 641 (112 + ls.length) = m) (H1 : Ev none e1 167 0 [some (.ref 633), some (.int 0), some (.int 999)] [] M v1 M1 0 0) (H : Ev none e 170 75 [some (.ref 633), some (.int i), some (.int 0), c3] (v1.toList ++ []) M1 v M' 0 0) : BDr B n M M' v ls 0 (nmR B ((prS B kk).1 1) s 0 m) := by
  have T := tks_ok hn2 h H1
  unfold nmR
  rw [show (if (0 : Int32) = 2 then (1 : Int32) else 0) = 0 from by decide, show mostS 0 = 999 from by unfold mostS; decide]
  cases ht : tkR s 0 999 with
  | inl f =>
    rw [ht] at T
    obtain ⟨rfl, f1⟩ := T
    rcases rlq0_75 f1.1 H with ⟨_, rfl, rfl⟩ | ⟨q, _⟩ | ⟨q, _⟩
    · exact FLT.ql ⟨rfl, f1⟩
    · exact absurd rfl q
    · exact absurd rfl q
  | inr nu =>
    rw [ht] at T
    obtain ⟨rfl, f1, r1, t1⟩ := T
    exact (cq0_ok hn2 hk r1 h40 (hL.frm f1 (by decide)) hlt hi (by rw [f1.rn (by decide)]; exact g0) (by rw [f1.rn (by decide)]; exact g1) t1 H).pre (f1.more (fun _ hq => hq) (fun q hq => List.mem_append_right _ hq))
theorem lq0_ok {i : Int32} (hn2 : n ≤ 440) (hk : 33 ≤ kk) (h : R0 B n M s) (h40 : s.2.1 ≤ 40) (hL : LQ M ls) (hlt : ls.length < 16) (hi : i.toInt = ((112 + ls.length : Nat) : Int)) (g0 : rN M 640 (112 + ls.length) = 0) (g1 : rN M 641 (112 + ls.length) = 0) (g2 : rN M 642 (112 + ls.length) = 0) (H : Ev none e 170 0 [some (.ref 633), some (.int i), some (.int 0), none] [] M v M' 0 0) : BDr B n M M' v ls 0 (bdR B ((prS B kk).1 1) s 0) := by
  unfold bdR
  rw [if_neg (by decide), if_neg (by decide)]
  obtain ⟨e1, v1, M1, he, H1, H⟩ := rlq0_0 h.1 H
  exact nq0_ok hn2 hk h h40 hL hlt hi g0 g1 H1 H
theorem cq1_ok {i m nu : Int32} {c3 : Option Value} (hn2 : n ≤ 440) (hk : 33 ≤ kk) (h : R0 B n M s) (h40 : s.2.1 ≤ 40) (hL : LQ M ls) (hlt : ls.length < 16) (hi : i.toInt = ((112 + ls.length : Nat) : Int)) (g0 : rN M 640 (112 + ls.length) = 1) (g1 : rN M 641 (112 + ls.length) = m) (g2 : zI M 633 32 = nu) (H : Ev none e 170 75 [some (.ref 633), some (.int i), some (.int 1), c3] [.int 1] M v M' 0 0) : BDr B n M M' v ls 1 (cnR B ((prS B kk).1 1) s 1 m nu) := by
  obtain ⟨S1, S2, S3, S4⟩ := st_r h hL hlt g0 g1 g2
  have hI := clI hi
  have e19 : zI (wI (wI M 642 (112 + ls.length) (zI M 633 32)) 643 (112 + ls.length) (zI M 633 19)) 633 19 = zI M 633 19 := by rw [fI_wI, fI_wI]
  unfold cnR cndR
  rw [if_neg (by decide)]
  rcases rlq1_75 h.1 H with ⟨q, _⟩ | ⟨_, g, _, _, _, rfl, rfl⟩ | ⟨_, g, _, _, e1, v1, M1, he, H1, H⟩
  · exact absurd q (by decide)
  · rw [hI] at g ⊢
    rcases S2.2.2.2.1.word (u := ifW) (C := 26982) S2.2.2.2.2.2.1 (by decide) (by decide) with ⟨q1, _⟩ | ⟨_, q2⟩
    · rw [g] at q1
      exact absurd q1 (by decide)
    · rw [if_neg (fun q => q2 q.2)]
      have R := fin_r S2 S3 hlt S4
      rw [e19] at R
      exact R.pre S1
  · rw [hI] at g H1
    rcases S2.2.2.2.1.word (u := ifW) (C := 26982) S2.2.2.2.2.2.1 (by decide) (by decide) with ⟨_, q2⟩ | ⟨q1, _⟩
    · rw [if_pos ⟨by decide, q2⟩]
      have q3 := ix_wd (B := B) (tk := hdT s.1) (ws := [ifW]) (by decide) (by decide) (by
        rw [q2]
        decide)
      obtain ⟨rfl, f1, r1⟩ := S2.next hn2 (by rw [q3]; decide) (by rw [q3]; decide) H1
      obtain ⟨e2, v2, M2, he2, H2, H⟩ := rlq1_140 r1.1 H
      have R := rcond_ok hn2 hk r1 h40 H2
      have f1q : FB fQl wQl M M1 := S1.trans f1.ql
      cases hr : ((prS B kk).1 1) (s.1.tail, s.2.1, s.2.2) with
      | inr f =>
        rw [hr] at R
        obtain ⟨rfl, f2⟩ := R
        rcases rlq1_150 f2.1 H with ⟨_, rfl, rfl⟩ | ⟨q, _⟩
        · exact FLq.pre f1q (FLT.ql ⟨rfl, f2⟩)
        · exact absurd rfl q
      | inl s2 =>
        rw [hr] at R
        obtain ⟨rfl, f2, r2⟩ := R
        rcases rlq1_150 r2.1 H with ⟨q, _⟩ | ⟨_, _, rfl, rfl⟩
        · exact absurd q (by decide)
        · rw [hI]
          exact (fin_r r2 ((S3.frm f1 (by decide)).frm f2 (by decide)) hlt ((S4.frm f1 (by decide)).frm f2 (by decide))).pre (f1q.trans f2.ql)
    · exact absurd q1 g
theorem nq1_ok {i m : Int32} {e1 : Nat} {v1 c3 : Option Value} (hn2 : n ≤ 440) (hk : 33 ≤ kk) (h : R0 B n M s) (h40 : s.2.1 ≤ 40) (hL : LQ M ls) (hlt : ls.length < 16) (hi : i.toInt = ((112 + ls.length : Nat) : Int)) (g0 : rN M 640 (112 + ls.length) = 1) (g1 : rN M 641 (112 + ls.length) = m) (H1 : Ev none e1 167 0 [some (.ref 633), some (.int 0), some (.int 999)] [] M v1 M1 0 0) (H : Ev none e 170 75 [some (.ref 633), some (.int i), some (.int 1), c3] (v1.toList ++ []) M1 v M' 0 0) : BDr B n M M' v ls 1 (nmR B ((prS B kk).1 1) s 1 m) := by
  have T := tks_ok hn2 h H1
  unfold nmR
  rw [show (if (1 : Int32) = 2 then (1 : Int32) else 0) = 0 from by decide, show mostS 1 = 999 from by unfold mostS; decide]
  cases ht : tkR s 0 999 with
  | inl f =>
    rw [ht] at T
    obtain ⟨rfl, f1⟩ := T
    rcases rlq1_75 f1.1 H with ⟨_, rfl, rfl⟩ | ⟨q, _⟩ | ⟨q, _⟩
    · exact FLT.ql ⟨rfl, f1⟩
    · exact absurd rfl q
    · exact absurd rfl q
  | inr nu =>
    rw [ht] at T
    obtain ⟨rfl, f1, r1, t1⟩ := T
    exact (cq1_ok hn2 hk r1 h40 (hL.frm f1 (by decide)) hlt hi (by rw [f1.rn (by decide)]; exact g0) (by rw [f1.rn (by decide)]; exact g1) t1 H).pre (f1.more (fun _ hq => hq) (fun q hq => List.mem_append_right _ hq))
theorem lq1_ok {i : Int32} (hn2 : n ≤ 440) (hk : 33 ≤ kk) (h : R0 B n M s) (h40 : s.2.1 ≤ 40) (hL : LQ M ls) (hlt : ls.length < 16) (hi : i.toInt = ((112 + ls.length : Nat) : Int)) (g0 : rN M 640 (112 + ls.length) = 1) (g1 : rN M 641 (112 + ls.length) = 0) (g2 : rN M 642 (112 + ls.length) = 0) (H : Ev none e 170 0 [some (.ref 633), some (.int i), some (.int 1), none] [] M v M' 0 0) : BDr B n M M' v ls 1 (bdR B ((prS B kk).1 1) s 1) := by
  unfold bdR
  rw [if_neg (by decide), if_neg (by decide)]
  obtain ⟨e1, v1, M1, he, H1, H⟩ := rlq1_0 h.1 H
  exact nq1_ok hn2 hk h h40 hL hlt hi g0 g1 H1 H
theorem cq2_ok {i m nu : Int32} {c3 : Option Value} (hn2 : n ≤ 440) (hk : 33 ≤ kk) (h : R0 B n M s) (h40 : s.2.1 ≤ 40) (hL : LQ M ls) (hlt : ls.length < 16) (hi : i.toInt = ((112 + ls.length : Nat) : Int)) (g0 : rN M 640 (112 + ls.length) = 2) (g1 : rN M 641 (112 + ls.length) = m) (g2 : zI M 633 32 = nu) (H : Ev none e 170 75 [some (.ref 633), some (.int i), some (.int 2), c3] [.int 1] M v M' 0 0) : BDr B n M M' v ls 2 (cnR B ((prS B kk).1 1) s 2 m nu) := by
  obtain ⟨S1, S2, S3, S4⟩ := st_r h hL hlt g0 g1 g2
  have hI := clI hi
  have e19 : zI (wI (wI M 642 (112 + ls.length) (zI M 633 32)) 643 (112 + ls.length) (zI M 633 19)) 633 19 = zI M 633 19 := by rw [fI_wI, fI_wI]
  unfold cnR cndR
  rw [if_neg (by decide)]
  rw [if_neg (fun q => absurd q.1 (by decide))]
  rcases rlq2_75 h.1 H with ⟨q, _⟩ | ⟨_, _, _, _, rfl, rfl⟩
  · exact absurd q (by decide)
  · rw [hI]
    have R := fin_r S2 S3 hlt S4
    rw [e19] at R
    exact R.pre S1
theorem nq2_ok {i m : Int32} {e1 : Nat} {v1 c3 : Option Value} (hn2 : n ≤ 440) (hk : 33 ≤ kk) (h : R0 B n M s) (h40 : s.2.1 ≤ 40) (hL : LQ M ls) (hlt : ls.length < 16) (hi : i.toInt = ((112 + ls.length : Nat) : Int)) (g0 : rN M 640 (112 + ls.length) = 2) (g1 : rN M 641 (112 + ls.length) = m) (H1 : Ev none e1 167 0 [some (.ref 633), some (.int 1), some (.int 999)] [] M v1 M1 0 0) (H : Ev none e 170 75 [some (.ref 633), some (.int i), some (.int 2), c3] (v1.toList ++ []) M1 v M' 0 0) : BDr B n M M' v ls 2 (nmR B ((prS B kk).1 1) s 2 m) := by
  have T := tks_ok hn2 h H1
  unfold nmR
  rw [show (if (2 : Int32) = 2 then (1 : Int32) else 0) = 1 from by decide, show mostS 2 = 999 from by unfold mostS; decide]
  cases ht : tkR s 1 999 with
  | inl f =>
    rw [ht] at T
    obtain ⟨rfl, f1⟩ := T
    rcases rlq2_75 f1.1 H with ⟨_, rfl, rfl⟩ | ⟨q, _⟩
    · exact FLT.ql ⟨rfl, f1⟩
    · exact absurd rfl q
  | inr nu =>
    rw [ht] at T
    obtain ⟨rfl, f1, r1, t1⟩ := T
    exact (cq2_ok hn2 hk r1 h40 (hL.frm f1 (by decide)) hlt hi (by rw [f1.rn (by decide)]; exact g0) (by rw [f1.rn (by decide)]; exact g1) t1 H).pre (f1.more (fun _ hq => hq) (fun q hq => List.mem_append_right _ hq))
theorem lq2_ok {i : Int32} (hn2 : n ≤ 440) (hk : 33 ≤ kk) (h : R0 B n M s) (h40 : s.2.1 ≤ 40) (hL : LQ M ls) (hlt : ls.length < 16) (hi : i.toInt = ((112 + ls.length : Nat) : Int)) (g0 : rN M 640 (112 + ls.length) = 2) (g1 : rN M 641 (112 + ls.length) = 0) (g2 : rN M 642 (112 + ls.length) = 0) (H : Ev none e 170 0 [some (.ref 633), some (.int i), some (.int 2), none] [] M v M' 0 0) : BDr B n M M' v ls 2 (bdR B ((prS B kk).1 1) s 2) := by
  unfold bdR
  rw [if_neg (by decide), if_neg (by decide)]
  obtain ⟨e1, v1, M1, he, H1, H⟩ := rlq2_0 h.1 H
  exact nq2_ok hn2 hk h h40 hL hlt hi g0 g1 H1 H
theorem cq3_ok {i m nu : Int32} {c3 : Option Value} (hn2 : n ≤ 440) (hk : 33 ≤ kk) (h : R0 B n M s) (h40 : s.2.1 ≤ 40) (hL : LQ M ls) (hlt : ls.length < 16) (hi : i.toInt = ((112 + ls.length : Nat) : Int)) (g0 : rN M 640 (112 + ls.length) = 3) (g1 : rN M 641 (112 + ls.length) = m) (g2 : zI M 633 32 = nu) (H : Ev none e 170 75 [some (.ref 633), some (.int i), some (.int 3), c3] [.int 1] M v M' 0 0) : BDr B n M M' v ls 3 (cnR B ((prS B kk).1 1) s 3 m nu) := by
  obtain ⟨S1, S2, S3, S4⟩ := st_r h hL hlt g0 g1 g2
  have hI := clI hi
  have e19 : zI (wI (wI M 642 (112 + ls.length) (zI M 633 32)) 643 (112 + ls.length) (zI M 633 19)) 633 19 = zI M 633 19 := by rw [fI_wI, fI_wI]
  unfold cnR cndR
  rw [if_neg (by decide)]
  rw [if_neg (fun q => absurd q.1 (by decide))]
  rcases rlq3_75 h.1 H with ⟨q, _⟩ | ⟨_, _, _, _, rfl, rfl⟩
  · exact absurd q (by decide)
  · rw [hI]
    have R := fin_r S2 S3 hlt S4
    rw [e19] at R
    exact R.pre S1
theorem nq3_ok {i m : Int32} {e1 : Nat} {v1 c3 : Option Value} (hn2 : n ≤ 440) (hk : 33 ≤ kk) (h : R0 B n M s) (h40 : s.2.1 ≤ 40) (hL : LQ M ls) (hlt : ls.length < 16) (hi : i.toInt = ((112 + ls.length : Nat) : Int)) (g0 : rN M 640 (112 + ls.length) = 3) (g1 : rN M 641 (112 + ls.length) = m) (H1 : Ev none e1 167 0 [some (.ref 633), some (.int 0), some (.int 999)] [] M v1 M1 0 0) (H : Ev none e 170 75 [some (.ref 633), some (.int i), some (.int 3), c3] (v1.toList ++ []) M1 v M' 0 0) : BDr B n M M' v ls 3 (nmR B ((prS B kk).1 1) s 3 m) := by
  have T := tks_ok hn2 h H1
  unfold nmR
  rw [show (if (3 : Int32) = 2 then (1 : Int32) else 0) = 0 from by decide, show mostS 3 = 999 from by unfold mostS; decide]
  cases ht : tkR s 0 999 with
  | inl f =>
    rw [ht] at T
    obtain ⟨rfl, f1⟩ := T
    rcases rlq3_75 f1.1 H with ⟨_, rfl, rfl⟩ | ⟨q, _⟩
    · exact FLT.ql ⟨rfl, f1⟩
    · exact absurd rfl q
  | inr nu =>
    rw [ht] at T
    obtain ⟨rfl, f1, r1, t1⟩ := T
    exact (cq3_ok hn2 hk r1 h40 (hL.frm f1 (by decide)) hlt hi (by rw [f1.rn (by decide)]; exact g0) (by rw [f1.rn (by decide)]; exact g1) t1 H).pre (f1.more (fun _ hq => hq) (fun q hq => List.mem_append_right _ hq))
theorem lq3_ok {i : Int32} (hn2 : n ≤ 440) (hk : 33 ≤ kk) (h : R0 B n M s) (h40 : s.2.1 ≤ 40) (hL : LQ M ls) (hlt : ls.length < 16) (hi : i.toInt = ((112 + ls.length : Nat) : Int)) (g0 : rN M 640 (112 + ls.length) = 3) (g1 : rN M 641 (112 + ls.length) = 0) (g2 : rN M 642 (112 + ls.length) = 0) (H : Ev none e 170 0 [some (.ref 633), some (.int i), some (.int 3), none] [] M v M' 0 0) : BDr B n M M' v ls 3 (bdR B ((prS B kk).1 1) s 3) := by
  unfold bdR
  rw [if_neg (by decide), if_neg (by decide)]
  obtain ⟨e1, v1, M1, he, H1, H⟩ := rlq3_0 h.1 H
  exact nq3_ok hn2 hk h h40 hL hlt hi g0 g1 H1 H
theorem cq4_ok {i m nu : Int32} {c3 : Option Value} (hn2 : n ≤ 440) (hk : 33 ≤ kk) (h : R0 B n M s) (h40 : s.2.1 ≤ 40) (hL : LQ M ls) (hlt : ls.length < 16) (hi : i.toInt = ((112 + ls.length : Nat) : Int)) (g0 : rN M 640 (112 + ls.length) = 4) (g1 : rN M 641 (112 + ls.length) = m) (g2 : zI M 633 32 = nu) (H : Ev none e 170 75 [some (.ref 633), some (.int i), some (.int 4), c3] [.int 1] M v M' 0 0) : BDr B n M M' v ls 4 (cnR B ((prS B kk).1 1) s 4 m nu) := by
  obtain ⟨S1, S2, S3, S4⟩ := st_r h hL hlt g0 g1 g2
  have hI := clI hi
  have e19 : zI (wI (wI M 642 (112 + ls.length) (zI M 633 32)) 643 (112 + ls.length) (zI M 633 19)) 633 19 = zI M 633 19 := by rw [fI_wI, fI_wI]
  unfold cnR cndR
  rw [if_neg (by decide)]
  rw [if_neg (fun q => absurd q.1 (by decide))]
  rcases rlq4_75 h.1 H with ⟨q, _⟩ | ⟨_, _, _, _, rfl, rfl⟩
  · exact absurd q (by decide)
  · rw [hI]
    have R := fin_r S2 S3 hlt S4
    rw [e19] at R
    exact R.pre S1
theorem nq4_ok {i m : Int32} {e1 : Nat} {v1 c3 : Option Value} (hn2 : n ≤ 440) (hk : 33 ≤ kk) (h : R0 B n M s) (h40 : s.2.1 ≤ 40) (hL : LQ M ls) (hlt : ls.length < 16) (hi : i.toInt = ((112 + ls.length : Nat) : Int)) (g0 : rN M 640 (112 + ls.length) = 4) (g1 : rN M 641 (112 + ls.length) = m) (H1 : Ev none e1 167 0 [some (.ref 633), some (.int 0), some (.int 999)] [] M v1 M1 0 0) (H : Ev none e 170 75 [some (.ref 633), some (.int i), some (.int 4), c3] (v1.toList ++ []) M1 v M' 0 0) : BDr B n M M' v ls 4 (nmR B ((prS B kk).1 1) s 4 m) := by
  have T := tks_ok hn2 h H1
  unfold nmR
  rw [show (if (4 : Int32) = 2 then (1 : Int32) else 0) = 0 from by decide, show mostS 4 = 999 from by unfold mostS; decide]
  cases ht : tkR s 0 999 with
  | inl f =>
    rw [ht] at T
    obtain ⟨rfl, f1⟩ := T
    rcases rlq4_75 f1.1 H with ⟨_, rfl, rfl⟩ | ⟨q, _⟩
    · exact FLT.ql ⟨rfl, f1⟩
    · exact absurd rfl q
  | inr nu =>
    rw [ht] at T
    obtain ⟨rfl, f1, r1, t1⟩ := T
    exact (cq4_ok hn2 hk r1 h40 (hL.frm f1 (by decide)) hlt hi (by rw [f1.rn (by decide)]; exact g0) (by rw [f1.rn (by decide)]; exact g1) t1 H).pre (f1.more (fun _ hq => hq) (fun q hq => List.mem_append_right _ hq))
theorem lq4_ok {i : Int32} (hn2 : n ≤ 440) (hk : 33 ≤ kk) (h : R0 B n M s) (h40 : s.2.1 ≤ 40) (hL : LQ M ls) (hlt : ls.length < 16) (hi : i.toInt = ((112 + ls.length : Nat) : Int)) (g0 : rN M 640 (112 + ls.length) = 4) (g1 : rN M 641 (112 + ls.length) = 0) (g2 : rN M 642 (112 + ls.length) = 0) (H : Ev none e 170 0 [some (.ref 633), some (.int i), some (.int 4), none] [] M v M' 0 0) : BDr B n M M' v ls 4 (bdR B ((prS B kk).1 1) s 4) := by
  unfold bdR
  rw [if_neg (by decide), if_neg (by decide)]
  obtain ⟨e1, v1, M1, he, H1, H⟩ := rlq4_0 h.1 H
  exact nq4_ok hn2 hk h h40 hL hlt hi g0 g1 H1 H
theorem cq5_ok {i m nu : Int32} {c3 : Option Value} (hn2 : n ≤ 440) (hk : 33 ≤ kk) (h : R0 B n M s) (h40 : s.2.1 ≤ 40) (hL : LQ M ls) (hlt : ls.length < 16) (hi : i.toInt = ((112 + ls.length : Nat) : Int)) (g0 : rN M 640 (112 + ls.length) = 5) (g1 : rN M 641 (112 + ls.length) = m) (g2 : zI M 633 32 = nu) (H : Ev none e 170 75 [some (.ref 633), some (.int i), some (.int 5), c3] [.int 1] M v M' 0 0) : BDr B n M M' v ls 5 (cnR B ((prS B kk).1 1) s 5 m nu) := by
  obtain ⟨S1, S2, S3, S4⟩ := st_r h hL hlt g0 g1 g2
  have hI := clI hi
  have e19 : zI (wI (wI M 642 (112 + ls.length) (zI M 633 32)) 643 (112 + ls.length) (zI M 633 19)) 633 19 = zI M 633 19 := by rw [fI_wI, fI_wI]
  unfold cnR cndR
  rw [if_neg (by decide)]
  rcases rlq5_75 h.1 H with ⟨q, _⟩ | ⟨_, g, _, _, _, rfl, rfl⟩ | ⟨_, g, _, _, e1, v1, M1, he, H1, H⟩
  · exact absurd q (by decide)
  · rw [hI] at g ⊢
    rcases S2.2.2.2.1.word (u := ifW) (C := 26982) S2.2.2.2.2.2.1 (by decide) (by decide) with ⟨q1, _⟩ | ⟨_, q2⟩
    · rw [g] at q1
      exact absurd q1 (by decide)
    · rw [if_neg (fun q => q2 q.2)]
      have R := fin_r S2 S3 hlt S4
      rw [e19] at R
      exact R.pre S1
  · rw [hI] at g H1
    rcases S2.2.2.2.1.word (u := ifW) (C := 26982) S2.2.2.2.2.2.1 (by decide) (by decide) with ⟨_, q2⟩ | ⟨q1, _⟩
    · rw [if_pos ⟨by decide, q2⟩]
      have q3 := ix_wd (B := B) (tk := hdT s.1) (ws := [ifW]) (by decide) (by decide) (by
        rw [q2]
        decide)
      obtain ⟨rfl, f1, r1⟩ := S2.next hn2 (by rw [q3]; decide) (by rw [q3]; decide) H1
      obtain ⟨e2, v2, M2, he2, H2, H⟩ := rlq5_140 r1.1 H
      have R := rcond_ok hn2 hk r1 h40 H2
      have f1q : FB fQl wQl M M1 := S1.trans f1.ql
      cases hr : ((prS B kk).1 1) (s.1.tail, s.2.1, s.2.2) with
      | inr f =>
        rw [hr] at R
        obtain ⟨rfl, f2⟩ := R
        rcases rlq5_150 f2.1 H with ⟨_, rfl, rfl⟩ | ⟨q, _⟩
        · exact FLq.pre f1q (FLT.ql ⟨rfl, f2⟩)
        · exact absurd rfl q
      | inl s2 =>
        rw [hr] at R
        obtain ⟨rfl, f2, r2⟩ := R
        rcases rlq5_150 r2.1 H with ⟨q, _⟩ | ⟨_, _, rfl, rfl⟩
        · exact absurd q (by decide)
        · rw [hI]
          exact (fin_r r2 ((S3.frm f1 (by decide)).frm f2 (by decide)) hlt ((S4.frm f1 (by decide)).frm f2 (by decide))).pre (f1q.trans f2.ql)
    · exact absurd q1 g
theorem nq5_ok {i m : Int32} {e1 : Nat} {v1 c3 : Option Value} (hn2 : n ≤ 440) (hk : 33 ≤ kk) (h : R0 B n M s) (h40 : s.2.1 ≤ 40) (hL : LQ M ls) (hlt : ls.length < 16) (hi : i.toInt = ((112 + ls.length : Nat) : Int)) (g0 : rN M 640 (112 + ls.length) = 5) (g1 : rN M 641 (112 + ls.length) = m) (H1 : Ev none e1 167 0 [some (.ref 633), some (.int 0), some (.int 99)] [] M v1 M1 0 0) (H : Ev none e 170 75 [some (.ref 633), some (.int i), some (.int 5), c3] (v1.toList ++ []) M1 v M' 0 0) : BDr B n M M' v ls 5 (nmR B ((prS B kk).1 1) s 5 m) := by
  have T := tks_ok hn2 h H1
  unfold nmR
  rw [show (if (5 : Int32) = 2 then (1 : Int32) else 0) = 0 from by decide, show mostS 5 = 99 from by unfold mostS; decide]
  cases ht : tkR s 0 99 with
  | inl f =>
    rw [ht] at T
    obtain ⟨rfl, f1⟩ := T
    rcases rlq5_75 f1.1 H with ⟨_, rfl, rfl⟩ | ⟨q, _⟩ | ⟨q, _⟩
    · exact FLT.ql ⟨rfl, f1⟩
    · exact absurd rfl q
    · exact absurd rfl q
  | inr nu =>
    rw [ht] at T
    obtain ⟨rfl, f1, r1, t1⟩ := T
    exact (cq5_ok hn2 hk r1 h40 (hL.frm f1 (by decide)) hlt hi (by rw [f1.rn (by decide)]; exact g0) (by rw [f1.rn (by decide)]; exact g1) t1 H).pre (f1.more (fun _ hq => hq) (fun q hq => List.mem_append_right _ hq))
theorem lq5_ok {i : Int32} (hn2 : n ≤ 440) (hk : 33 ≤ kk) (h : R0 B n M s) (h40 : s.2.1 ≤ 40) (hL : LQ M ls) (hlt : ls.length < 16) (hi : i.toInt = ((112 + ls.length : Nat) : Int)) (g0 : rN M 640 (112 + ls.length) = 5) (g1 : rN M 641 (112 + ls.length) = 0) (g2 : rN M 642 (112 + ls.length) = 0) (H : Ev none e 170 0 [some (.ref 633), some (.int i), some (.int 5), none] [] M v M' 0 0) : BDr B n M M' v ls 5 (bdR B ((prS B kk).1 1) s 5) := by
  unfold bdR
  rw [if_neg (by decide), if_pos rfl]
  have em := fls h.2.2.2.1 h.2.2.2.2.2.1
  have hneg : ∀ x : Int32, x < 0 ↔ ¬ 0 ≤ x := fun x => by rw [Int32.lt_iff_toInt_lt, Int32.le_iff_toInt_le]; omega
  rcases rlq5_0 h.1 H with ⟨q, _, e1, v1, M1, he, H1, H⟩ | ⟨q, e1, v1, M1, he, H1, H⟩
  · rw [em] at q H1 H
    have hx : ¬ ixF (wdS B (hdT s.1)) meaW 0 < 0 := fun x => (hneg _).mp x q
    rw [if_neg hx]
    have h2t := ix_wd (by decide) (by decide) hx
    have hI := clI hi
    rw [hI] at H1
    have F1 : FB [] [641] M (wI M 641 (112 + ls.length) (ixF (wdS B (hdT s.1)) meaW 0)) := FB.wI (by simp)
    have R1 : R0 B n (wI M 641 (112 + ls.length) (ixF (wdS B (hdT s.1)) meaW 0)) s := h.frm h.1.ki F1 (by decide) (by decide)
    obtain ⟨rfl, f1, r1⟩ := R1.next hn2 (by rw [h2t]; decide) (by rw [h2t]; decide) H1
    have F2 : FB fQl wQl M M1 := (F1.more (fun _ hq => by cases hq) (by decide)).trans f1.ql
    obtain ⟨e2, v2, M2, he2, H2, H⟩ := rlq5_31 r1.1 H
    refine (nq5_ok (s := (s.1.tail, s.2.1, s.2.2)) hn2 hk r1 h40 (LQ.frm (hL.wr (by decide)) f1 (by decide)) hlt hi ?_ ?_ H2 H).pre F2
    · rw [f1.rn (by decide), F1.rn (by decide)]
      exact g0
    · rw [f1.rn (by decide), rN_wI_eq (by rw [(r_len h.1).2.1]; omega)]
  · rw [em] at q
    rw [if_pos ((hneg _).mpr q)]
    obtain ⟨rfl, f1⟩ := h.bad H1
    obtain ⟨rfl, rfl⟩ := rlq5_19 f1.1 H
    exact FLT.ql ⟨rfl, f1⟩
theorem lq6_ok {i : Int32} (hn2 : n ≤ 440) (hk : 33 ≤ kk) (h : R0 B n M s) (h40 : s.2.1 ≤ 40) (hL : LQ M ls) (hlt : ls.length < 16) (hi : i.toInt = ((112 + ls.length : Nat) : Int)) (g0 : rN M 640 (112 + ls.length) = 6) (g1 : rN M 641 (112 + ls.length) = 0) (g2 : rN M 642 (112 + ls.length) = 0) (H : Ev none e 170 0 [some (.ref 633), some (.int i), some (.int 6), none] [] M v M' 0 0) : BDr B n M M' v ls 6 (bdR B ((prS B kk).1 1) s 6) := by
  unfold bdR
  rw [if_pos rfl]
  obtain ⟨_, e1, v1, M1, he, H1, H⟩ := rlq6_0 h.1 H
  have hI := clI hi
  rw [hI] at H1
  have F1 : FB [] [643] M (wI M 643 (112 + ls.length) (zI M 633 19)) := FB.wI (by simp)
  have R1 : R0 B n (wI M 643 (112 + ls.length) (zI M 633 19)) s := h.frm h.1.ki F1 (by decide) (by decide)
  have L1 : LQ (wI M 643 (112 + ls.length) (zI M 633 19)) ls := hL.wr (by decide)
  have E1 : ER (wI M 643 (112 + ls.length) (zI M 633 19)) (112 + ls.length) 6 0 0 s.2.2.length := by
    refine ⟨by rw [F1.rn (by decide)]; exact g0, by rw [F1.rn (by decide)]; exact g1, by rw [F1.rn (by decide)]; exact g2, ?_⟩
    rw [rN_wI_eq (by rw [(r_len h.1).2.2.2.1]; omega)]
    exact h.2.2.2.2.2.2.2.1.1
  have F2 : FB fQl wQl M (wI M 643 (112 + ls.length) (zI M 633 19)) := F1.more (fun _ hq => by cases hq) (by decide)
  have R := rcond_ok hn2 hk R1 h40 H1
  unfold cnR cndR
  rw [if_pos rfl]
  cases hr : ((prS B kk).1 1) s with
  | inr f =>
    rw [hr] at R
    obtain ⟨rfl, f2⟩ := R
    rcases rlq6_150 f2.1 H with ⟨_, rfl, rfl⟩ | ⟨q, _⟩
    · exact FLq.pre F2 (FLT.ql ⟨rfl, f2⟩)
    · exact absurd rfl q
  | inl s2 =>
    rw [hr] at R
    obtain ⟨rfl, f2, r2⟩ := R
    rcases rlq6_150 r2.1 H with ⟨q, _⟩ | ⟨_, _, rfl, rfl⟩
    · exact absurd q (by decide)
    · rw [hI]
      exact (fin_r r2 (L1.frm f2 (by decide)) hlt (E1.frm f2 (by decide))).pre (F2.trans f2.ql)
theorem cq7_ok {i m nu : Int32} {c3 : Option Value} (hn2 : n ≤ 440) (hk : 33 ≤ kk) (h : R0 B n M s) (h40 : s.2.1 ≤ 40) (hL : LQ M ls) (hlt : ls.length < 16) (hi : i.toInt = ((112 + ls.length : Nat) : Int)) (g0 : rN M 640 (112 + ls.length) = 7) (g1 : rN M 641 (112 + ls.length) = m) (g2 : zI M 633 32 = nu) (H : Ev none e 170 75 [some (.ref 633), some (.int i), some (.int 7), c3] [.int 1] M v M' 0 0) : BDr B n M M' v ls 7 (cnR B ((prS B kk).1 1) s 7 m nu) := by
  obtain ⟨S1, S2, S3, S4⟩ := st_r h hL hlt g0 g1 g2
  have hI := clI hi
  have e19 : zI (wI (wI M 642 (112 + ls.length) (zI M 633 32)) 643 (112 + ls.length) (zI M 633 19)) 633 19 = zI M 633 19 := by rw [fI_wI, fI_wI]
  unfold cnR cndR
  rw [if_neg (by decide)]
  rw [if_neg (fun q => absurd q.1 (by decide))]
  rcases rlq7_75 h.1 H with ⟨q, _⟩ | ⟨_, _, _, _, rfl, rfl⟩
  · exact absurd q (by decide)
  · rw [hI]
    have R := fin_r S2 S3 hlt S4
    rw [e19] at R
    exact R.pre S1
theorem nq7_ok {i m : Int32} {e1 : Nat} {v1 c3 : Option Value} (hn2 : n ≤ 440) (hk : 33 ≤ kk) (h : R0 B n M s) (h40 : s.2.1 ≤ 40) (hL : LQ M ls) (hlt : ls.length < 16) (hi : i.toInt = ((112 + ls.length : Nat) : Int)) (g0 : rN M 640 (112 + ls.length) = 7) (g1 : rN M 641 (112 + ls.length) = m) (H1 : Ev none e1 167 0 [some (.ref 633), some (.int 0), some (.int 9)] [] M v1 M1 0 0) (H : Ev none e 170 75 [some (.ref 633), some (.int i), some (.int 7), c3] (v1.toList ++ []) M1 v M' 0 0) : BDr B n M M' v ls 7 (nmR B ((prS B kk).1 1) s 7 m) := by
  have T := tks_ok hn2 h H1
  unfold nmR
  rw [show (if (7 : Int32) = 2 then (1 : Int32) else 0) = 0 from by decide, show mostS 7 = 9 from by unfold mostS; decide]
  cases ht : tkR s 0 9 with
  | inl f =>
    rw [ht] at T
    obtain ⟨rfl, f1⟩ := T
    rcases rlq7_75 f1.1 H with ⟨_, rfl, rfl⟩ | ⟨q, _⟩
    · exact FLT.ql ⟨rfl, f1⟩
    · exact absurd rfl q
  | inr nu =>
    rw [ht] at T
    obtain ⟨rfl, f1, r1, t1⟩ := T
    exact (cq7_ok hn2 hk r1 h40 (hL.frm f1 (by decide)) hlt hi (by rw [f1.rn (by decide)]; exact g0) (by rw [f1.rn (by decide)]; exact g1) t1 H).pre (f1.more (fun _ hq => hq) (fun q hq => List.mem_append_right _ hq))
theorem lq7_ok {i : Int32} (hn2 : n ≤ 440) (hk : 33 ≤ kk) (h : R0 B n M s) (h40 : s.2.1 ≤ 40) (hL : LQ M ls) (hlt : ls.length < 16) (hi : i.toInt = ((112 + ls.length : Nat) : Int)) (g0 : rN M 640 (112 + ls.length) = 7) (g1 : rN M 641 (112 + ls.length) = 0) (g2 : rN M 642 (112 + ls.length) = 0) (H : Ev none e 170 0 [some (.ref 633), some (.int i), some (.int 7), none] [] M v M' 0 0) : BDr B n M M' v ls 7 (bdR B ((prS B kk).1 1) s 7) := by
  unfold bdR
  rw [if_neg (by decide), if_neg (by decide)]
  obtain ⟨e1, v1, M1, he, H1, H⟩ := rlq7_0 h.1 H
  exact nq7_ok hn2 hk h h40 hL hlt hi g0 g1 H1 H
end LQK
/-! THE REFERENCE READS: find, read -/
/-- the lines of a text -/
def LQT (M : Mem) (t : Nat) (ls : List Lnq) : Prop := (rN M 639 t).toInt = (ls.length : Int) ∧ ls.length ≤ 16 ∧ ∀ j l, ls[j]? = some l → rN M 640 (16 * t + j) = l.1 ∧ rN M 641 (16 * t + j) = l.2.1 ∧ rN M 642 (16 * t + j) = l.2.2.1 ∧ (rN M 643 (16 * t + j)).toInt = (l.2.2.2.1 : Int) ∧ (rN M 644 (16 * t + j)).toInt = (l.2.2.2.2 : Int)
section RRD
variable {e n kk : Nat} {M M1 M' : Mem} {v : Option Value} {B : Nat → Int32} {s : Sg} {ls : List Lnq}
theorem LQ.T (h : LQ M ls) : LQT M 7 ls := h
theorem fdq_loop {t : Nat} {tz k : Int32} (hL : LQT M t ls) (ht : t ≤ 7) (hz : tz.toInt = (t : Int)) : ∀ (m j : Nat) (z : Int32), ls.length - j ≤ m → z.toInt = ((16 * t + j : Nat) : Int) → j ≤ ls.length → hasK ls k = hasK (ls.drop j) k → (∀ d, tvS ls k d = tvS (ls.drop j) k d) → Ev none e 172 5 [some (.ref 633), some (.int tz), some (.int k), some (.int z)] [] M v M' 0 0 → SQ M → M' = M ∧ ∃ y, v = some (.int y) ∧ ((y < 0 ∧ hasK ls k = false ∧ ∀ d, tvS ls k d = d) ∨ (0 ≤ y.toInt ∧ y.toInt < 128 ∧ hasK ls k = true ∧ ∀ d, tvS ls k d = rI M 642 y)) := by
  have e16 : (16 : Int32).toInt = 16 := rfl
  have hl16 := hL.2.1
  have b1 : ((16 : Int32) * tz).toInt = 16 * (t : Int) := by
    rw [i32_mul (by rw [e16, hz]; omega) (by rw [e16, hz]; omega), e16, hz]
  have r1 : (rI M 639 tz).toInt = (ls.length : Int) := by
    rw [rI_n hz]
    exact hL.1
  have b2 : ((16 : Int32) * tz + rI M 639 tz).toInt = 16 * (t : Int) + ls.length := by
    rw [i32_add (by omega) (by omega), b1, r1]
  intro m
  induction m with
  | zero =>
    intro j z hm hzj hj h1 h2 H hS
    have hjl : j = ls.length := by omega
    rcases fdq_5 hS H with ⟨_, _, rfl, rfl⟩ | ⟨q, _⟩ | ⟨q, _⟩
    · rw [hjl, List.drop_length] at h1 h2
      exact ⟨rfl, -1, rfl, Or.inl ⟨by decide, h1, h2⟩⟩
    · rw [Int32.le_iff_toInt_le, b2, hzj] at q
      exact absurd (by omega) q
    · rw [Int32.le_iff_toInt_le, b2, hzj] at q
      exact absurd (by omega) q
  | succ m ih =>
    intro j z hm hzj hj h1 h2 H hS
    rcases fdq_5 hS H with ⟨q, _, rfl, rfl⟩ | ⟨q, g, _, b, rfl, rfl⟩ | ⟨q, g, _, b, H⟩
    · rw [Int32.le_iff_toInt_le, b2, hzj] at q
      have hjl : j = ls.length := by omega
      rw [hjl, List.drop_length] at h1 h2
      exact ⟨rfl, -1, rfl, Or.inl ⟨by decide, h1, h2⟩⟩
    · rw [Int32.le_iff_toInt_le, b2, hzj] at q
      have hlt : j < ls.length := by omega
      have hd : ls.drop j = ls[j] :: ls.drop (j + 1) := List.drop_eq_getElem_cons hlt
      have hx := hL.2.2 j ls[j] (List.getElem?_eq_getElem hlt)
      rw [rI_n hzj, hx.1] at g
      refine ⟨rfl, z, rfl, Or.inr ⟨b.1, b.2, ?_, fun d => ?_⟩⟩
      · rw [h1, hd]
        show (decide (ls[j].1 = k) || _) = true
        rw [decide_eq_true g]
        rfl
      · rw [h2 d, hd, rI_n hzj, hx.2.2.1]
        unfold tvS
        rw [List.find?_cons_of_pos (by exact decide_eq_true g)]
    · rw [Int32.le_iff_toInt_le, b2, hzj] at q
      have hlt : j < ls.length := by omega
      have hd : ls.drop j = ls[j] :: ls.drop (j + 1) := List.drop_eq_getElem_cons hlt
      have hx := hL.2.2 j ls[j] (List.getElem?_eq_getElem hlt)
      rw [rI_n hzj, hx.1] at g
      refine ih (j + 1) (z + 1) (by omega) (by rw [i32_p1 (by omega), hzj]; omega) hlt ?_ (fun d => ?_) H hS
      · rw [h1, hd]
        show (decide (ls[j].1 = k) || _) = _
        rw [decide_eq_false g]
        rfl
      · rw [h2 d, hd]
        unfold tvS
        rw [List.find?_cons_of_neg (by rw [decide_eq_false g]; decide)]
theorem fdq_ok {t : Nat} {tz k : Int32} (hS : SQ M) (hL : LQT M t ls) (ht : t ≤ 7) (hz : tz.toInt = (t : Int)) (H : Ev none e 172 0 [some (.ref 633), some (.int tz), some (.int k), none] [] M v M' 0 0) : M' = M ∧ ∃ y, v = some (.int y) ∧ ((y < 0 ∧ hasK ls k = false ∧ ∀ d, tvS ls k d = d) ∨ (0 ≤ y.toInt ∧ y.toInt < 128 ∧ hasK ls k = true ∧ ∀ d, tvS ls k d = rI M 642 y)) := by
  have H := fdq_0 hS H
  have e16 : (16 : Int32).toInt = 16 := rfl
  exact fdq_loop hL ht hz ls.length 0 _ (by omega) (by rw [i32_mul (by rw [e16, hz]; omega) (by rw [e16, hz]; omega), e16, hz]; omega) (Nat.zero_le _) rfl (fun _ => rfl) H hS
theorem cn_40 {C : Sg → PR} {x m nu : Int32} {q : Sg × Int32 × Int32 × Nat} (hC : ∀ s s2, C s = .inl s2 → s2.2.1 ≤ 40) (h40 : s.2.1 ≤ 40) (h : cnR B C s x m nu = .inr q) : q.1.2.1 ≤ 40 := by
  unfold cnR at h
  cases hr : cndR B C s x with
  | inr f => rw [hr] at h; cases h
  | inl s2 =>
    rw [hr] at h
    cases h
    unfold cndR at hr
    split at hr
    · exact hC _ _ hr
    · split at hr
      · exact hC _ _ hr
      · cases hr
        exact h40
theorem nm_40 {C : Sg → PR} {x m : Int32} {q : Sg × Int32 × Int32 × Nat} (hC : ∀ s s2, C s = .inl s2 → s2.2.1 ≤ 40) (h40 : s.2.1 ≤ 40) (h : nmR B C s x m = .inr q) : q.1.2.1 ≤ 40 := by
  unfold nmR at h
  split at h
  · cases h
  · exact cn_40 (s := (s.1.tail, s.2.1, s.2.2)) hC h40 h
theorem bd_40 {C : Sg → PR} {x : Int32} {q : Sg × Int32 × Int32 × Nat} (hC : ∀ s s2, C s = .inl s2 → s2.2.1 ≤ 40) (h40 : s.2.1 ≤ 40) (h : bdR B C s x = .inr q) : q.1.2.1 ≤ 40 := by
  unfold bdR at h
  split at h
  · exact cn_40 hC h40 h
  · split at h
    · split at h
      · cases h
      · exact nm_40 (s := (s.1.tail, s.2.1, s.2.2)) hC h40 h
    · exact nm_40 hC h40 h
def K8 (k : Int32) : Prop := k = 0 ∨ k = 1 ∨ k = 2 ∨ k = 3 ∨ k = 4 ∨ k = 5 ∨ k = 6 ∨ k = 7
theorem lq_ok {i k : Int32} (hK : K8 k) (hn2 : n ≤ 440) (hk : 33 ≤ kk) (h : R0 B n M s) (h40 : s.2.1 ≤ 40) (hL : LQ M ls) (hlt : ls.length < 16) (hi : i.toInt = ((112 + ls.length : Nat) : Int)) (g0 : rN M 640 (112 + ls.length) = k) (g1 : rN M 641 (112 + ls.length) = 0) (g2 : rN M 642 (112 + ls.length) = 0) (H : Ev none e 170 0 [some (.ref 633), some (.int i), some (.int k), none] [] M v M' 0 0) : BDr B n M M' v ls k (bdR B ((prS B kk).1 1) s k) := by
  rcases hK with rfl | rfl | rfl | rfl | rfl | rfl | rfl | rfl
  · exact lq0_ok hn2 hk h h40 hL hlt hi g0 g1 g2 H
  · exact lq1_ok hn2 hk h h40 hL hlt hi g0 g1 g2 H
  · exact lq2_ok hn2 hk h h40 hL hlt hi g0 g1 g2 H
  · exact lq3_ok hn2 hk h h40 hL hlt hi g0 g1 g2 H
  · exact lq4_ok hn2 hk h h40 hL hlt hi g0 g1 g2 H
  · exact lq5_ok hn2 hk h h40 hL hlt hi g0 g1 g2 H
  · exact lq6_ok hn2 hk h h40 hL hlt hi g0 g1 g2 H
  · exact lq7_ok hn2 hk h h40 hL hlt hi g0 g1 g2 H
theorem once_k {k : Int32} (hK : K8 k) : (onceB k = true ∧ (¬ G_140 M k 2 4 = 0 ∨ k = 7)) ∨ (onceB k = false ∧ G_140 M k 2 4 = 0 ∧ k ≠ 7) := by
  unfold G_140 onceB
  rcases hK with rfl | rfl | rfl | rfl | rfl | rfl | rfl | rfl <;> decide
/-- where read goes on, or what it ends with -/
def RDn (B : Nat → Int32) (n e : Nat) (l : Int32) (M M' : Mem) (v : Option Value) (r : PLn) : Prop := match r with
  | .inr f => FLq M M' v f
  | .inl q => ∃ M1 c2 c3 c4, Ev none e 169 0 [some (.ref 633), some (.int l), c2, c3, c4] [] M1 v M' 0 0 ∧ FB fQl wQl M M1 ∧ R0 B n M1 q.1 ∧ LQ M1 q.2 ∧ q.1.2.1 ≤ 40
theorem rdq_go {e1 : Nat} {v1 c3 : Option Value} {l k : Int32} (hK : K8 k) (hn2 : n ≤ 440) (hk : 33 ≤ kk) (h : R0 B n M s) (h40 : s.2.1 ≤ 40) (hL : LQ M ls) (hlt : ls.length < 16) (h2 : (hdT s.1).1 = 2) (H1 : Ev none e1 162 0 [some (.ref 633), none, none, none] [] M v1 M1 0 0) (H : Ev none e 169 92 [some (.ref 633), some (.int l), some (.int k), c3, some (.int (112 + rI M 639 7))] (v1.toList ++ []) M1 v M' 0 0) : RDn B n e l M M' v (bodB B ((prS B kk).1 1) (s.1.tail, s.2.1, s.2.2) ls k) := by
  obtain ⟨rfl, f1, r1⟩ := h.next hn2 (by rw [h2]; decide) (by rw [h2]; decide) H1
  have e112 : (112 : Int32).toInt = 112 := rfl
  have hl : (rI M 639 7).toInt = (ls.length : Int) := hL.1
  have hj : ((112 : Int32) + rI M 639 7).toInt = ((112 + ls.length : Nat) : Int) := by
    rw [i32_add (by omega) (by omega), e112, hl]
    omega
  obtain ⟨e2, v2, M2, he2, H2, H⟩ := rdq_92 r1.1 H
  rw [clI hj] at H2
  have F2 : FB [] [640, 641, 642] M1 (wI (wI (wI M1 640 (112 + ls.length) k) 641 (112 + ls.length) 0) 642 (112 + ls.length) 0) := ((FB.wI (by simp)).trans (FB.wI (by simp))).trans (FB.wI (by simp))
  have R2 : R0 B n (wI (wI (wI M1 640 (112 + ls.length) k) 641 (112 + ls.length) 0) 642 (112 + ls.length) 0) (s.1.tail, s.2.1, s.2.2) := r1.frm r1.1.ki.ki.ki F2 (by decide) (by decide)
  have L2 : LQ (wI (wI (wI M1 640 (112 + ls.length) k) 641 (112 + ls.length) 0) 642 (112 + ls.length) 0) ls := LQ.wr (LQ.wr (LQ.wr (hL.frm f1 (by decide)) (by decide)) (by decide)) (by decide)
  have F3 : FB fQl wQl M (wI (wI (wI M1 640 (112 + ls.length) k) 641 (112 + ls.length) 0) 642 (112 + ls.length) 0) := f1.ql.trans (F2.more (fun _ hq => by cases hq) (by decide))
  have R := lq_ok hK hn2 hk R2 h40 L2 hlt hj (by rw [rN_wI_ne (fun q => absurd q.1 (by decide)), rN_wI_ne (fun q => absurd q.1 (by decide)), rN_wI_eq (by rw [(r_len r1.1).1]; omega)]) (by rw [rN_wI_ne (fun q => absurd q.1 (by decide)), rN_wI_eq (by rw [(r_len r1.1.ki).2.1]; omega)]) (by rw [rN_wI_eq (by rw [(r_len r1.1.ki.ki).2.2.1]; omega)]) H2
  rw [bd_en (s := (s.1.tail, s.2.1, s.2.2)) r1.2.2.2.2.1 r1.2.2.2.2.2.1]
  cases hr : bdR B ((prS B kk).1 1) (s.1.tail, s.2.1, s.2.2) k with
  | inl f =>
    rw [hr] at R
    obtain ⟨rfl, f2⟩ := R
    rcases rdq_123 f2.1 H with ⟨_, rfl, rfl⟩ | ⟨q, _⟩
    · exact FLq.pre F3 ⟨rfl, f2⟩
    · exact absurd rfl q
  | inr q =>
    rw [hr] at R
    obtain ⟨rfl, f4, r4, l4, e4, t4⟩ := R
    rcases rdq_123 r4.1 H with ⟨x, _⟩ | ⟨_, e5, v5, M5, he5, H5, H⟩
    · exact absurd x (by decide)
    · unfold enR
      dsimp only
      unfold endB
      rcases sgn_ok hn2 r4 H5 with ⟨x, rfl, f5⟩ | ⟨x, rfl, f5, r5⟩
      · rw [if_pos x]
        rcases rdq_132 f5.1 H with ⟨_, rfl, rfl⟩ | ⟨x, _⟩
        · exact FLq.pre (F3.trans f4) (FLT.ql ⟨rfl, f5⟩)
        · exact absurd rfl x
      · rw [if_neg (fun y => y x)]
        rcases rdq_132 r5.1 H with ⟨x, _⟩ | ⟨_, _, _, H⟩
        · exact absurd x (by decide)
        · have l5 := l4.frm f5 (by decide)
          have e6 := e4.frm f5 (by decide)
          have t6 : (rN M5 644 (112 + ls.length)).toInt = (q.1.2.2.length : Int) := by
            rw [f5.rn (by decide)]
            exact t4
          have F6 : FB [] [639] M5 (wI M5 639 7 (rI M5 639 7 + 1)) := FB.wI (by simp)
          have hl5 : (rI M5 639 7).toInt = (ls.length : Int) := l5.1
          have w7 : (zrw M5 639).length = 8 := (r5.1.1.row qa_639 qw_67).2
          refine ⟨_, _, _, _, H, ((F3.trans f4).trans f5.ql).trans (F6.more (fun _ hq => by cases hq) (by decide)), r5.frm r5.1.ki F6 (by decide) (by decide), ⟨?_, ?_, fun j l hj => ?_⟩, bd_40 (s := (s.1.tail, s.2.1, s.2.2)) (fun s s2 hs => ((sp_bd kk).1 1 s s2 hs).2.1) h40 hr⟩
          · show (rN (wI M5 639 7 (rI M5 639 7 + 1)) 639 7).toInt = _
            rw [rN_wI_eq (by omega), i32_p1 (by omega), hl5, List.length_append]
            rfl
          · rw [List.length_append]
            exact hlt
          · show rN (wI M5 639 7 (rI M5 639 7 + 1)) 640 (112 + j) = _ ∧ rN (wI M5 639 7 (rI M5 639 7 + 1)) 641 (112 + j) = _ ∧ rN (wI M5 639 7 (rI M5 639 7 + 1)) 642 (112 + j) = _ ∧ (rN (wI M5 639 7 (rI M5 639 7 + 1)) 643 (112 + j)).toInt = _ ∧ (rN (wI M5 639 7 (rI M5 639 7 + 1)) 644 (112 + j)).toInt = _
            rw [F6.rn (by decide), F6.rn (by decide), F6.rn (by decide), F6.rn (by decide), F6.rn (by decide)]
            rcases Nat.lt_or_ge j ls.length with y | y
            · rw [List.getElem?_append_left y] at hj
              exact l5.2.2 j l hj
            · rw [List.getElem?_append_right y] at hj
              have hj0 : j = ls.length := by
                rcases Nat.eq_or_lt_of_le y with z | z
                · exact z.symm
                · rw [List.getElem?_eq_none (by simp; omega)] at hj
                  cases hj
              rw [hj0, Nat.sub_self] at hj
              cases hj
              rw [hj0]
              exact ⟨e6.1, e6.2.1, e6.2.2.1, e6.2.2.2, t6⟩
end RRD
/-! THE REFERENCE'S read, whole -/
section RRL
variable {e n kk : Nat} {M M1 M' : Mem} {v : Option Value} {B : Nat → Int32} {s : Sg} {ls : List Lnq}
theorem RTk.fin {ts : List Tok} (h : RTk B n M ts) : ((hdT ts).1 = 0 ∧ zI M 633 22 = (if 400 < n then 4 else 0)) ∨ ((hdT ts).1 ≠ 0 ∧ zI M 633 22 ≠ 0) := by
  cases ts with
  | nil => exact h.elim
  | cons t r =>
    obtain ⟨_, h⟩ := h
    rcases h with ⟨h1, h2⟩ | ⟨h1, h2⟩ | ⟨h1, h2, _⟩
    · exact Or.inl ⟨h1, h2⟩
    · exact Or.inr ⟨by show t.1 ≠ 0; rw [h1]; decide, by rw [h2]; decide⟩
    · refine Or.inr ⟨h1.1, ?_⟩
      rcases h2 with ⟨_, q, _⟩ | ⟨_, q, _⟩ | ⟨_, q, _⟩ <;> rw [q] <;> decide
theorem rdq_one {l : Int32} {law : Bool} {c2 c3 c4 : Option Value} (hl : l = bif law then 1 else 0) (hn2 : n ≤ 440) (hk : 33 ≤ kk) (h : R0 B n M s) (h40 : s.2.1 ≤ 40) (hL : LQ M ls) (hz : zI M 633 22 ≠ 0) (H : Ev none e 169 0 [some (.ref 633), some (.int l), c2, c3, c4] [] M v M' 0 0) : RDn B n e l M M' v (lnB B law ((prS B kk).1 1) s ls) := by
  have em : G_168 M l = kdS B law (hdT s.1) := by
    rw [hl]
    exact fll h.2.2.2.1 h.2.2.2.2.2.1
  have hneg : ∀ x : Int32, x < 0 ↔ ¬ 0 ≤ x := fun x => by rw [Int32.lt_iff_toInt_lt, Int32.le_iff_toInt_le]; omega
  have hK : 0 ≤ kdS B law (hdT s.1) → K8 (kdS B law (hdT s.1)) ∧ (hdT s.1).1 = 2 := by
    intro q
    unfold kdS at q ⊢
    cases law
    · have q : 0 ≤ (if ixF (wdS B (hdT s.1)) habW 0 < 0 then (-1 : Int32) else 5 + ixF (wdS B (hdT s.1)) habW 0) := q
      show K8 (if ixF (wdS B (hdT s.1)) habW 0 < 0 then (-1 : Int32) else 5 + ixF (wdS B (hdT s.1)) habW 0) ∧ _
      by_cases hx : ixF (wdS B (hdT s.1)) habW 0 < 0
      · rw [if_pos hx] at q
        exact absurd q (by decide)
      · rw [if_neg hx]
        refine ⟨?_, ix_wd (by decide) (by decide) hx⟩
        rcases hab_cases hx with y | y | y <;> rw [y] <;> unfold K8 <;> decide
    · have q : 0 ≤ ixF (wdS B (hdT s.1)) lawW 0 := q
      show K8 (ixF (wdS B (hdT s.1)) lawW 0) ∧ _
      have hx : ¬ ixF (wdS B (hdT s.1)) lawW 0 < 0 := fun y => (hneg _).mp y q
      refine ⟨?_, ix_wd (by decide) (by decide) hx⟩
      rcases law_cases hx with y | y | y | y | y <;> rw [y] <;> unfold K8 <;> decide
  have e16 : (16 : Int32).toInt = 16 := rfl
  have h16 : rI M 639 7 = 16 ↔ 16 ≤ ls.length := by
    have h1 : (rI M 639 7).toInt = (ls.length : Int) := hL.1
    have h2 := hL.2.1
    rw [← Int32.toInt_inj, h1, e16]
    omega
  unfold lnB
  have bd3 : ∀ {k c4 : Option Value} {c2 : Option Value} {e1 : Nat} {v1 : Option Value} {M1 : Mem}, Ev none e1 163 0 [some (.ref 633), some (.int 3)] [] M v1 M1 0 0 → Ev none e 169 75 [some (.ref 633), some (.int l), k, c2, c4] (v1.toList ++ []) M1 v M' 0 0 → FLq M M' v (3, (hdT s.1).2.1) := fun H1 H => by
    obtain ⟨rfl, f1⟩ := h.bad H1
    obtain ⟨rfl, rfl⟩ := rdq_75 f1.1 H
    exact FLT.ql ⟨rfl, f1⟩
  have hfd : ∀ {k : Int32} {e1 : Nat} {v1 : Option Value} {M1 : Mem} {c3 c4 : Option Value}, K8 k → (hdT s.1).1 = 2 → onceB k = true → Ev none e1 172 0 [some (.ref 633), some (.int 7), some (.int k), none] [] M v1 M1 0 0 → Ev none e 169 45 [some (.ref 633), some (.int l), some (.int k), c3, c4] (v1.toList ++ []) M1 v M' 0 0 → RDn B n e l M M' v (if 16 ≤ ls.length ∨ (onceB k = true ∧ hasK ls k = true) then .inr (3, (hdT s.1).2.1) else bodB B ((prS B kk).1 1) (s.1.tail, s.2.1, s.2.2) ls k) := fun {k e1 v1 M1 c3 c4} hk8 h2 ho H1 H => by
    obtain ⟨rfl, y, rfl, hy⟩ := fdq_ok h.1 hL.T (by omega) rfl H1
    rcases rdq_45 h.1 H with ⟨q, g, e2, v2, M2, he2, H2, H⟩ | ⟨q, g, e2, v2, M2, he2, H2, H⟩ | ⟨q, e2, v2, M2, he2, H2, H⟩
    · rw [if_pos (Or.inl (h16.mp g))]
      exact bd3 H2 H
    · have hh : hasK ls k = false := by
        rcases hy with ⟨_, a, _⟩ | ⟨a, _⟩
        · exact a
        · rw [Int32.lt_iff_toInt_lt] at q
          have z0 : (0 : Int32).toInt = 0 := rfl
          omega
      have hlt : ¬ 16 ≤ ls.length := fun x => g (h16.mpr x)
      rw [if_neg (fun x => x.elim hlt (fun x => by rw [hh] at x; exact absurd x.2 (by decide)))]
      exact rdq_go hk8 hn2 hk h h40 hL (by omega) h2 H2 H
    · have hh : hasK ls k = true := by
        rcases hy with ⟨a, _⟩ | ⟨_, _, a, _⟩
        · exact absurd a q
        · exact a
      rw [if_pos (Or.inr ⟨ho, hh⟩)]
      exact bd3 H2 H
  rcases rdq_0 h.1 H with ⟨q, _⟩ | ⟨_, g1, g2, g3, e1, v1, M1, he, H1, H⟩ | ⟨_, g1, g2, g3, g4, e1, v1, M1, he, H1, H⟩ | ⟨_, g1, g2, g3, g4, e1, v1, M1, he, H1, H⟩ | ⟨_, g1, g2, e1, v1, M1, he, H1, H⟩ | ⟨_, g1, e1, v1, M1, he, H1, H⟩
  · exact absurd q hz
  · rw [em] at g1 g2 g3 H1 H
    obtain ⟨k8, h2⟩ := hK g1
    rw [if_neg (fun x => (hneg _).mp x g1)]
    refine hfd k8 h2 ?_ H1 H
    rcases once_k (M := M) k8 with ⟨a, _⟩ | ⟨_, _, a⟩
    · exact a
    · exact absurd g3 a
  · rw [em] at g1
    rw [if_neg (fun x => (hneg _).mp x g1), if_pos (Or.inl (h16.mp g4))]
    exact bd3 H1 H
  · rw [em] at g1 g2 g3 H
    obtain ⟨k8, h2⟩ := hK g1
    have ho : onceB (kdS B law (hdT s.1)) = false := by
      rcases once_k (M := M) k8 with ⟨_, a⟩ | ⟨a, _⟩
      · rcases a with a | a
        · exact absurd g2 a
        · exact absurd a g3
      · exact a
    have hlt : ¬ 16 ≤ ls.length := fun x => g4 (h16.mpr x)
    rw [if_neg (fun x => (hneg _).mp x g1), if_neg (fun x => x.elim hlt (fun x => by rw [ho] at x; exact absurd x.1 (by decide)))]
    exact rdq_go k8 hn2 hk h h40 hL (by omega) h2 H1 H
  · rw [em] at g1 g2 H1 H
    obtain ⟨k8, h2⟩ := hK g1
    rw [if_neg (fun x => (hneg _).mp x g1)]
    refine hfd k8 h2 ?_ H1 H
    rcases once_k (M := M) k8 with ⟨a, _⟩ | ⟨_, a, _⟩
    · exact a
    · exact absurd a g2
  · rw [em] at g1
    rw [if_pos ((hneg _).mpr g1)]
    obtain ⟨rfl, f1⟩ := h.bad H1
    obtain ⟨rfl, rfl⟩ := rdq_22 f1.1 H
    exact FLT.ql ⟨rfl, f1⟩
/-- all lines -/
def RDr (B : Nat → Int32) (n : Nat) (M M' : Mem) (v : Option Value) (r : PLn) : Prop := match r with
  | .inr f => FLq M M' v f
  | .inl q => v = some (.int 1) ∧ FB fQl wQl M M' ∧ R0 B n M' q.1 ∧ LQ M' q.2
theorem kd_neg {law : Bool} {tk : Tok} (h : tk.1 ≠ 2) : kdS B law tk < 0 := by
  have hw : wdS B tk = [] := by
    unfold wdS
    rw [if_neg h]
  unfold kdS
  rw [hw]
  cases law <;> decide
theorem rdq_loop {l : Int32} {law : Bool} (hl : l = bif law then 1 else 0) (hn2 : n ≤ 440) (hk : 33 ≤ kk) : ∀ (j : Nat) (s : Sg) (ls : List Lnq) (M M' : Mem) (v c2 c3 c4 : Option Value), ls.length + j = 17 → R0 B n M s → s.2.1 ≤ 40 → LQ M ls → Ev none e 169 0 [some (.ref 633), some (.int l), c2, c3, c4] [] M v M' 0 0 → RDr B n M M' v (txB B law ((prS B kk).1 1) (decide (400 < n)) j s ls) := by
  intro j
  induction j with
  | zero =>
    intro s ls M M' v c2 c3 c4 h1 _ _ hL _
    have := hL.2.1
    omega
  | succ j ih =>
    intro s ls M M' v c2 c3 c4 h1 h h40 hL H
    unfold txB
    by_cases hz : zI M 633 22 = 0
    · rcases h.2.2.2.1.fin with ⟨q1, q2⟩ | ⟨_, q⟩
      · rw [if_pos q1]
        have hb : ¬ 400 < n := fun x => by
          rw [if_pos x, hz] at q2
          exact absurd q2 (by decide)
        rw [decide_eq_false hb]
        rcases rdq_0 h.1 H with ⟨_, rfl, rfl⟩ | ⟨q, _⟩ | ⟨q, _⟩ | ⟨q, _⟩ | ⟨q, _⟩ | ⟨q, _⟩
        · exact ⟨rfl, FB.refl _, h, hL⟩
        all_goals exact absurd hz q
      · exact absurd hz q
    · have R := rdq_one hl hn2 hk h h40 hL hz H
      rcases h.2.2.2.1.fin with ⟨q1, q2⟩ | ⟨q1, _⟩
      · rw [if_pos q1]
        have hb : 400 < n := by
          rcases Nat.lt_or_ge 400 n with x | x
          · exact x
          · rw [if_neg (by omega)] at q2
            exact absurd q2 hz
        rw [decide_eq_true hb]
        unfold lnB at R
        rw [if_pos (kd_neg (by rw [q1]; decide))] at R
        exact R
      · rw [if_neg q1]
        cases hr : lnB B law ((prS B kk).1 1) s ls with
        | inr f =>
          rw [hr] at R
          exact R
        | inl q =>
          rw [hr] at R
          obtain ⟨M1, d2, d3, d4, H1, F1, R1, L1, b1⟩ := R
          have hlen := lnB_len hr
          have R2 := ih q.1 q.2 M1 M' v d2 d3 d4 (by omega) R1 b1 L1 H1
          show RDr B n M M' v (txB B law ((prS B kk).1 1) (decide (400 < n)) j q.1 q.2)
          cases hx : txB B law ((prS B kk).1 1) (decide (400 < n)) j q.1 q.2 with
          | inr f =>
            rw [hx] at R2
            exact FLq.pre F1 R2
          | inl w =>
            rw [hx] at R2
            exact ⟨R2.1, F1.trans R2.2.1, R2.2.2⟩
end RRL
/-! THE REFERENCE'S text -/
section RTE
variable {e n kk : Nat} {M M1 M' : Mem} {v : Option Value} {B : Nat → Int32} {s : Sg} {ls : List Lnq}
theorem mul_t {a tz kz : Int32} {A t k : Nat} (ha : a.toInt = (A : Int)) (hA : A ≤ 200) (ht : tz.toInt = (t : Int)) (ht6 : t ≤ 7) (hk : kz.toInt = (k : Int)) (hk2 : k ≤ 200) : (a * tz + kz).toInt = ((A * t + k : Nat) : Int) := by
  have h0 : A * t ≤ 200 * 7 := Nat.mul_le_mul hA ht6
  have h1 : a.toInt * tz.toInt = ((A * t : Nat) : Int) := by rw [ha, ht]; push_cast; rfl
  have h2 : (a * tz).toInt = ((A * t : Nat) : Int) := by
    rw [i32_mul (by rw [h1]; omega) (by rw [h1]; omega), h1]
  rw [i32_add (by omega) (by omega), h2, hk]
  push_cast
  rfl
theorem te_a {t : Nat} {tz l : Int32} (ht : t ≤ 6) (hz : tz.toInt = (t : Int)) : ∀ (m k : Nat) (kz : Int32) (M M' : Mem) (v c4 c5 : Option Value), 16 - k ≤ m → k ≤ 16 → kz.toInt = (k : Int) → SQ M → Ev none e 181 57 [some (.ref 633), some (.int tz), some (.int l), some (.int kz), c4, c5] [] M v M' 0 0 → ∃ M2, (∃ c4 c5, Ev none e 181 155 [some (.ref 633), some (.int tz), some (.int l), some (.int 0), c4, c5] [] M2 v M' 0 0) ∧ SQ M2 ∧ FA [] [640, 641, 642, 643, 644] M M2 ∧ (∀ b i, ¬ (16 * t + k ≤ i ∧ i < 16 * t + 16) → rN M2 b i = rN M b i) ∧ ∀ b ∈ [640, 641, 642, 643, 644], ∀ j, k ≤ j → j < 16 → rN M2 b (16 * t + j) = rN M b (112 + j) := by
  have e1 : (16 : Int32).toInt = 16 := rfl
  have e2 : (112 : Int32).toInt = ((112 : Nat) : Int) := rfl
  intro m
  induction m with
  | zero =>
    intro k kz M M' v c4 c5 hm hk hkz hS H
    have hks : k = 16 := by omega
    rcases teq_57 hS H with ⟨q, H⟩ | ⟨q, _⟩
    · exact ⟨M, ⟨_, _, H⟩, hS, FA.refl _, fun _ _ _ => rfl, fun b hb j h1 h2 => absurd h2 (by omega)⟩
    · rw [Int32.le_iff_toInt_le] at q
      omega
  | succ m ih =>
    intro k kz M M' v c4 c5 hm hk hkz hS H
    rcases teq_57 hS H with ⟨q, H⟩ | ⟨q, _, _, _, _, _, _, _, _, _, _, H⟩
    · rw [Int32.le_iff_toInt_le] at q
      have hks : k = 16 := by omega
      exact ⟨M, ⟨_, _, H⟩, hS, FA.refl _, fun _ _ _ => rfl, fun b hb j h1 h2 => absurd h2 (by omega)⟩
    · rw [Int32.le_iff_toInt_le] at q
      have hks : k < 16 := by omega
      have d1 : ((112 : Int32) + kz).toInt = ((112 + k : Nat) : Int) := by
        rw [i32_add (by omega) (by omega), e2, hkz]
        exact (Int.natCast_add _ _).symm
      have d2 : ((16 : Int32) * tz + kz).toInt = ((16 * t + k : Nat) : Int) := mul_t rfl (by omega) hz (by omega) hkz (by omega)
      rw [clI d2, show rI M 640 (112 + kz) = rN M 640 (112 + k) from rI_n d1, show rI M 641 (112 + kz) = rN M 641 (112 + k) from rI_n d1, show rI M 642 (112 + kz) = rN M 642 (112 + k) from rI_n d1, show rI M 643 (112 + kz) = rN M 643 (112 + k) from rI_n d1, show rI M 644 (112 + kz) = rN M 644 (112 + k) from rI_n d1] at H
      have hN : SQ (wI (wI (wI (wI (wI M 640 (16 * t + k) (rN M 640 (112 + k))) 641 (16 * t + k) (rN M 641 (112 + k))) 642 (16 * t + k) (rN M 642 (112 + k))) 643 (16 * t + k) (rN M 643 (112 + k))) 644 (16 * t + k) (rN M 644 (112 + k))) := hS.ki.ki.ki.ki.ki
      have F : FA [] [640, 641, 642, 643, 644] M (wI (wI (wI (wI (wI M 640 (16 * t + k) (rN M 640 (112 + k))) 641 (16 * t + k) (rN M 641 (112 + k))) 642 (16 * t + k) (rN M 642 (112 + k))) 643 (16 * t + k) (rN M 643 (112 + k))) 644 (16 * t + k) (rN M 644 (112 + k))) := ((((FA.wI (by simp)).trans (FA.wI (by simp))).trans (FA.wI (by simp))).trans (FA.wI (by simp))).trans (FA.wI (by simp))
      have hI : 16 * t + k < 128 := by omega
      obtain ⟨M2, R, s2, f2, u2, w2⟩ := ih (k + 1) (kz + 1) _ M' v _ _ (by omega) (by omega) (by rw [i32_p1 (by omega), hkz]; rfl) hN H
      have ne : ∀ b i, i ≠ 16 * t + k → rN (wI (wI (wI (wI (wI M 640 (16 * t + k) (rN M 640 (112 + k))) 641 (16 * t + k) (rN M 641 (112 + k))) 642 (16 * t + k) (rN M 642 (112 + k))) 643 (16 * t + k) (rN M 643 (112 + k))) 644 (16 * t + k) (rN M 644 (112 + k))) b i = rN M b i := fun b i hi => by
        rw [rN_wI_ne (fun q => hi q.2), rN_wI_ne (fun q => hi q.2), rN_wI_ne (fun q => hi q.2), rN_wI_ne (fun q => hi q.2), rN_wI_ne (fun q => hi q.2)]
      refine ⟨M2, R, s2, F.trans f2, fun b i hi => ?_, fun b hb j h1 h2 => ?_⟩
      · rw [u2 b i (fun x => hi ⟨by omega, x.2⟩)]
        by_cases hx : i = 16 * t + k
        · exact absurd ⟨by omega, by omega⟩ hi
        · exact ne b i hx
      · by_cases hj : j = k
        · rw [hj, u2 b _ (fun x => by omega)]
          simp only [List.mem_cons, List.not_mem_nil, or_false] at hb
          rcases hb with rfl | rfl | rfl | rfl | rfl
          · rw [rN_wI_ne (fun q => absurd q.1 (by decide)), rN_wI_ne (fun q => absurd q.1 (by decide)), rN_wI_ne (fun q => absurd q.1 (by decide)), rN_wI_ne (fun q => absurd q.1 (by decide)), rN_wI_eq (by rw [(hS.1.row qa_640 qw_68).2]; exact hI)]
          · rw [rN_wI_ne (fun q => absurd q.1 (by decide)), rN_wI_ne (fun q => absurd q.1 (by decide)), rN_wI_ne (fun q => absurd q.1 (by decide)), rN_wI_eq (by rw [(hS.ki.1.row qa_641 qw_69).2]; exact hI)]
          · rw [rN_wI_ne (fun q => absurd q.1 (by decide)), rN_wI_ne (fun q => absurd q.1 (by decide)), rN_wI_eq (by rw [(hS.ki.ki.1.row qa_642 qw_70).2]; exact hI)]
          · rw [rN_wI_ne (fun q => absurd q.1 (by decide)), rN_wI_eq (by rw [(hS.ki.ki.ki.1.row qa_643 qw_71).2]; exact hI)]
          · rw [rN_wI_eq (by rw [(hS.ki.ki.ki.ki.1.row qa_644 qw_72).2]; exact hI)]
        · rw [w2 b hb j (by omega) h2]
          exact ne b _ (by omega)
theorem te_b {t : Nat} {tz l : Int32} (ht : t ≤ 6) (hz : tz.toInt = (t : Int)) : ∀ (m k : Nat) (kz : Int32) (M M' : Mem) (v c4 c5 : Option Value), 200 - k ≤ m → k ≤ 200 → kz.toInt = (k : Int) → SQ M → Ev none e 181 155 [some (.ref 633), some (.int tz), some (.int l), some (.int kz), c4, c5] [] M v M' 0 0 → ∃ M2, (v = some (.int (rI M2 639 tz)) ∧ M' = M2) ∧ SQ M2 ∧ FA [] [645, 646, 647] M M2 ∧ (∀ b i, ¬ (200 * t + k ≤ i ∧ i < 200 * t + 200) → rN M2 b i = rN M b i) ∧ ∀ b ∈ [645, 646, 647], ∀ j, k ≤ j → j < 200 → rN M2 b (200 * t + j) = rN M b (1400 + j) := by
  have e1 : (200 : Int32).toInt = 200 := rfl
  have e2 : (1400 : Int32).toInt = ((1400 : Nat) : Int) := rfl
  intro m
  induction m with
  | zero =>
    intro k kz M M' v c4 c5 hm hk hkz hS H
    have hks : k = 200 := by omega
    rcases teq_155 hS H with ⟨q, _, rfl, rfl⟩ | ⟨q, _⟩
    · exact ⟨M', ⟨rfl, rfl⟩, hS, FA.refl _, fun _ _ _ => rfl, fun b hb j h1 h2 => absurd h2 (by omega)⟩
    · rw [Int32.le_iff_toInt_le] at q
      omega
  | succ m ih =>
    intro k kz M M' v c4 c5 hm hk hkz hS H
    rcases teq_155 hS H with ⟨q, _, rfl, rfl⟩ | ⟨q, _, _, _, _, _, _, H⟩
    · rw [Int32.le_iff_toInt_le] at q
      have hks : k = 200 := by omega
      exact ⟨M', ⟨rfl, rfl⟩, hS, FA.refl _, fun _ _ _ => rfl, fun b hb j h1 h2 => absurd h2 (by omega)⟩
    · rw [Int32.le_iff_toInt_le] at q
      have hks : k < 200 := by omega
      have d1 : ((1400 : Int32) + kz).toInt = ((1400 + k : Nat) : Int) := by
        rw [i32_add (by omega) (by omega), e2, hkz]
        exact (Int.natCast_add _ _).symm
      have d2 : ((200 : Int32) * tz + kz).toInt = ((200 * t + k : Nat) : Int) := mul_t rfl (by omega) hz (by omega) hkz (by omega)
      rw [clI d2, show rI M 645 (1400 + kz) = rN M 645 (1400 + k) from rI_n d1, show rI M 646 (1400 + kz) = rN M 646 (1400 + k) from rI_n d1, show rI M 647 (1400 + kz) = rN M 647 (1400 + k) from rI_n d1] at H
      have hN : SQ (wI (wI (wI M 645 (200 * t + k) (rN M 645 (1400 + k))) 646 (200 * t + k) (rN M 646 (1400 + k))) 647 (200 * t + k) (rN M 647 (1400 + k))) := hS.ki.ki.ki
      have F : FA [] [645, 646, 647] M (wI (wI (wI M 645 (200 * t + k) (rN M 645 (1400 + k))) 646 (200 * t + k) (rN M 646 (1400 + k))) 647 (200 * t + k) (rN M 647 (1400 + k))) := ((FA.wI (by simp)).trans (FA.wI (by simp))).trans (FA.wI (by simp))
      have hI : 200 * t + k < 1600 := by omega
      obtain ⟨M2, R, s2, f2, u2, w2⟩ := ih (k + 1) (kz + 1) _ M' v _ _ (by omega) (by omega) (by rw [i32_p1 (by omega), hkz]; rfl) hN H
      have ne : ∀ b i, i ≠ 200 * t + k → rN (wI (wI (wI M 645 (200 * t + k) (rN M 645 (1400 + k))) 646 (200 * t + k) (rN M 646 (1400 + k))) 647 (200 * t + k) (rN M 647 (1400 + k))) b i = rN M b i := fun b i hi => by
        rw [rN_wI_ne (fun q => hi q.2), rN_wI_ne (fun q => hi q.2), rN_wI_ne (fun q => hi q.2)]
      refine ⟨M2, R, s2, F.trans f2, fun b i hi => ?_, fun b hb j h1 h2 => ?_⟩
      · rw [u2 b i (fun x => hi ⟨by omega, x.2⟩)]
        by_cases hx : i = 200 * t + k
        · exact absurd ⟨by omega, by omega⟩ hi
        · exact ne b i hx
      · by_cases hj : j = k
        · rw [hj, u2 b _ (fun x => by omega)]
          simp only [List.mem_cons, List.not_mem_nil, or_false] at hb
          rcases hb with rfl | rfl | rfl
          · rw [rN_wI_ne (fun q => absurd q.1 (by decide)), rN_wI_ne (fun q => absurd q.1 (by decide)), rN_wI_eq (by rw [(hS.1.row qa_645 qw_73).2]; exact hI)]
          · rw [rN_wI_ne (fun q => absurd q.1 (by decide)), rN_wI_eq (by rw [(hS.ki.1.row qa_646 qw_74).2]; exact hI)]
          · rw [rN_wI_eq (by rw [(hS.ki.ki.1.row qa_647 qw_75).2]; exact hI)]
        · rw [w2 b hb j (by omega) h2]
          exact ne b _ (by omega)
end RTE
/-! THE REFERENCE: text, told, law, habit, fault -/
def TXR (M : Mem) (t : Nat) (q : Sg × List Lnq) : Prop := LQT M t q.2 ∧ ∀ j c, j < 200 → q.1.2.2[j]? = some c → rN M 645 (200 * t + j) = c.1 ∧ rN M 646 (200 * t + j) = c.2.1 ∧ rN M 647 (200 * t + j) = c.2.2
def inT (t b j : Nat) : Prop := (b = 639 ∧ j = t) ∨ (640 ≤ b ∧ b ≤ 644 ∧ 16 * t ≤ j ∧ j < 16 * t + 16) ∨ (645 ≤ b ∧ b ≤ 647 ∧ 200 * t ≤ j ∧ j < 200 * t + 200)
section RTO
variable {e n kk : Nat} {M M1 M' : Mem} {v : Option Value}
theorem TXR.low {t' t : Nat} {q : Sg × List Lnq} (h : TXR M t' q) (ht : t' < 7) (hne : t' ≠ t) (hL : ∀ b j, lowQ b j → ¬ inT t b j → rN M' b j = rN M b j) : TXR M' t' q := by
  obtain ⟨⟨h1, h2, h3⟩, h4⟩ := h
  have g : ∀ b j, 640 ≤ b → b ≤ 644 → j < 16 → rN M' b (16 * t' + j) = rN M b (16 * t' + j) := fun b j b1 b2 hj => hL b _ (by unfold lowQ; omega) (by unfold inT; omega)
  have g2 : ∀ b j, 645 ≤ b → b ≤ 647 → j < 200 → rN M' b (200 * t' + j) = rN M b (200 * t' + j) := fun b j b1 b2 hj => hL b _ (by unfold lowQ; omega) (by unfold inT; omega)
  refine ⟨⟨by rw [hL 639 t' (by unfold lowQ; omega) (by unfold inT; omega)]; exact h1, h2, fun j l hj => ?_⟩, fun j c h5 hj => ?_⟩
  · have hj16 : j < 16 := by
      rcases Nat.lt_or_ge j q.2.length with x | x
      · omega
      · rw [List.getElem?_eq_none x] at hj
        cases hj
    rw [g 640 j (by decide) (by decide) hj16, g 641 j (by decide) (by decide) hj16, g 642 j (by decide) (by decide) hj16, g 643 j (by decide) (by decide) hj16, g 644 j (by decide) (by decide) hj16]
    exact h3 j l hj
  · rw [g2 645 j (by decide) (by decide) h5, g2 646 j (by decide) (by decide) h5, g2 647 j (by decide) (by decide) h5]
    exact h4 j c h5 hj
theorem rtx_ok {t : Nat} {tz l : Int32} {law : Bool} {c3 c4 c5 : Option Value} (hl : l = bif law then 1 else 0) (ht : t ≤ 6) (hz : tz.toInt = (t : Int)) (hn2 : n ≤ 440) (hk : 33 ≤ kk) (hS : SQ M) (hn : (zI M 633 3).toInt = (n : Int)) (hp : zI M 633 4 = 0) (H : Ev none e 181 0 [some (.ref 633), some (.int tz), some (.int l), c3, c4, c5] [] M v M' 0 0) : (∃ x, v = some (.int x) ∧ x.toInt = ansB (rdB (bR M) n law ((prS (bR M) kk).1 1))) ∧ SQ M' ∧ FA fQl wQl M M' ∧ zI M' 633 26 = fltB (rdB (bR M) n law ((prS (bR M) kk).1 1)) ∧ (match rdB (bR M) n law ((prS (bR M) kk).1 1) with
    | .inr _ => ∀ b j, lowQ b j → rN M' b j = rN M b j
    | .inl q => TXR M' t q) ∧ ∀ b j, lowQ b j → ¬ inT t b j → rN M' b j = rN M b j := by
  obtain ⟨_, e1, v1, M1, he, H1, H⟩ := teq_0 hS H
  have H1 : Ev none e1 162 0 [some (.ref 633), none, none, none] [] (wF (wF (wI (wF M 633 26 0) 639 7 0) 633 19 0) 633 21 0) v1 M1 0 0 := H1
  have s0 : SQ (wF (wF (wI (wF M 633 26 0) 639 7 0) 633 19 0) 633 21 0) := hS.kf.ki.kf.kf
  have f0 : FB [(633, 26), (633, 19), (633, 21)] [639] M (wF (wF (wI (wF M 633 26 0) 639 7 0) 633 19 0) 633 21 0) := (((FB.wF (by simp)).trans (FB.wI (by simp))).trans (FB.wF (by simp))).trans (FB.wF (by simp))
  have b0 : bR (wF (wF (wI (wF M 633 26 0) 639 7 0) 633 19 0) 633 21 0) = bR M := f0.bR (by decide)
  have w7 : (zrw (wF M 633 26 0) 639).length = 8 := (hS.kf.1.row qa_639 qw_67).2
  obtain ⟨rfl, s1, f1, t1⟩ := nx_all hn2 n 0 _ (by omega) (by omega) s0 (by rw [f0.fi (by decide)]; exact hn) (by rw [f0.fi (by decide), hp]; rfl) H1
  rw [b0] at t1
  have R1 : R0 (bR M) n M1 (tlS (bR M) n 0, 0, []) := by
    refine ⟨s1, (f1.bR (by decide)).trans b0, by rw [f1.fi (by decide), f0.fi (by decide)]; exact hn, t1, tlS_wf n 0 (by omega) (by omega), tlS_gd hn2 n 0 (by omega) (by omega), ?_, ⟨?_, fun j c h => by cases h⟩, ?_⟩
    · rw [f1.fi (by decide), fI_wF_eq hS.kf.ki.kf.1 qa_633 qi_61_21]
      rfl
    · rw [f1.fi (by decide), fI_wF_ne (by decide), fI_wF_eq hS.kf.ki.1 qa_633 qi_61_19]
      rfl
    · rw [f1.fi (by decide), fI_wF_ne (by decide), fI_wF_ne (by decide), fI_wI, fI_wF_eq hS.1 qa_633 qi_61_26]
  have L1 : LQ M1 [] := by
    refine ⟨?_, Nat.zero_le _, fun j l h => by cases h⟩
    rw [f1.rn (by decide), rN_wF, rN_wF, rN_wI_eq (by omega)]
    rfl
  have F1 : FB fQl wQl M M1 := (f0.more (by decide) (by decide)).trans (f1.more (by decide) (by decide))
  obtain ⟨e2, v2, M2, he2, H2, H⟩ := teq_27 s1 H
  have R := rdq_loop hl hn2 hk 17 _ [] M1 M2 v2 none none none rfl R1 (Nat.zero_le _) L1 H2
  show (∃ x, v = some (.int x) ∧ x.toInt = ansB (txB (bR M) law ((prS (bR M) kk).1 1) (decide (400 < n)) 17 (tlS (bR M) n 0, 0, []) [])) ∧ SQ M' ∧ FA fQl wQl M M' ∧ zI M' 633 26 = fltB (txB (bR M) law ((prS (bR M) kk).1 1) (decide (400 < n)) 17 (tlS (bR M) n 0, 0, []) []) ∧ (match txB (bR M) law ((prS (bR M) kk).1 1) (decide (400 < n)) 17 (tlS (bR M) n 0, 0, []) [] with
    | .inr _ => ∀ b j, lowQ b j → rN M' b j = rN M b j
    | .inl q => TXR M' t q) ∧ ∀ b j, lowQ b j → ¬ inT t b j → rN M' b j = rN M b j
  cases hr : txB (bR M) law ((prS (bR M) kk).1 1) (decide (400 < n)) 17 (tlS (bR M) n 0, 0, []) [] with
  | inr f =>
    rw [hr] at R
    obtain ⟨rfl, s2, f2, z1, z2⟩ := R
    rcases teq_32 s2 H with ⟨_, rfl, rfl⟩ | ⟨q, _⟩
    · obtain ⟨m, hm⟩ : ∃ m : Int32, m = -1 := ⟨_, rfl⟩
      refine ⟨⟨_, rfl, ?_⟩, s2, (F1.trans f2).1, z1, (fun b j hl => (F1.trans f2).2 b j hl), fun b j hl _ => (F1.trans f2).2 b j hl⟩
      rw [← hm, i32_m1x hm (by omega), z2]
      rfl
    · exact absurd rfl q
  | inl q =>
    rw [hr] at R
    obtain ⟨rfl, f2, r2, l2⟩ := R
    rcases teq_32 r2.1 H with ⟨x, _⟩ | ⟨_, _, _, H⟩
    · exact absurd x (by decide)
    · rw [clI hz] at H
      have hlen : (rI M2 639 7).toInt = (q.2.length : Int) := l2.1
      have s3 : SQ (wI M2 639 t (rI M2 639 7)) := r2.1.ki
      have f3 : FA [] [639] M2 (wI M2 639 t (rI M2 639 7)) := FA.wI (by simp)
      have w7b : (zrw M2 639).length = 8 := (r2.1.1.row qa_639 qw_67).2
      have d3 : rN (wI M2 639 t (rI M2 639 7)) 639 t = rI M2 639 7 := rN_wI_eq (by omega)
      obtain ⟨M4, ⟨d4, d5, H⟩, s4, f4, u4, c4⟩ := te_a ht hz 16 0 0 _ M' v _ _ (by omega) (by omega) rfl s3 H
      obtain ⟨M5, ⟨rfl, rfl⟩, s5, f5, u5, c5⟩ := te_b ht hz 200 0 0 M4 M' v _ _ (by omega) (by omega) rfl s4 H
      have hlast : rN M' 639 t = rI M2 639 7 := by
        rw [f5.rn (by decide), f4.rn (by decide), d3]
      refine ⟨⟨_, rfl, ?_⟩, s5, (((F1.trans f2).1.trans (f3.more (fun _ hq => by cases hq) (by decide))).trans (f4.more (fun _ hq => by cases hq) (by decide))).trans (f5.more (fun _ hq => by cases hq) (by decide)), ?_, ⟨⟨?_, l2.2.1, fun j l hj => ?_⟩, fun j c hj hc => ?_⟩, fun b j hl ht2 => ?_⟩
      · rw [rI_n hz, hlast, hlen]
        rfl
      · rw [f5.fi (by decide), f4.fi (by decide), f3.fi (by decide)]
        exact r2.2.2.2.2.2.2.2.2
      · rw [hlast]
        exact hlen
      · have hj16 : j < 16 := by
          rcases Nat.lt_or_ge j q.2.length with x | x
          · have := l2.2.1
            omega
          · rw [List.getElem?_eq_none x] at hj
            cases hj
        have g : ∀ b, b ∈ [640, 641, 642, 643, 644] → b ∉ [645, 646, 647] → b ∉ [639] → rN M' b (16 * t + j) = rN M2 b (112 + j) := fun b h1 h2 h3 => by
          rw [f5.rn h2, c4 b h1 j (by omega) hj16, f3.rn h3]
        rw [g 640 (by decide) (by decide) (by decide), g 641 (by decide) (by decide) (by decide), g 642 (by decide) (by decide) (by decide), g 643 (by decide) (by decide) (by decide), g 644 (by decide) (by decide) (by decide)]
        exact l2.2.2 j l hj
      · have g : ∀ b, b ∈ [645, 646, 647] → b ∉ [640, 641, 642, 643, 644] → b ∉ [639] → rN M' b (200 * t + j) = rN M2 b (1400 + j) := fun b h1 h2 h3 => by
          rw [c5 b h1 j (by omega) hj, f4.rn h2, f3.rn h3]
        rw [g 645 (by decide) (by decide) (by decide), g 646 (by decide) (by decide) (by decide), g 647 (by decide) (by decide) (by decide)]
        exact r2.2.2.2.2.2.2.2.1.2 j c hc
      · have g0 : rN M2 b j = rN M b j := (F1.trans f2).2 b j hl
        rw [← g0]
        unfold lowQ at hl
        unfold inT at ht2
        by_cases hb : 645 ≤ b
        · rw [u5 b j (by omega), f4.rn (by simp only [List.mem_cons, List.not_mem_nil, or_false]; omega), f3.rn (by simp only [List.mem_cons, List.not_mem_nil, or_false]; omega)]
        · rw [f5.rn (by simp only [List.mem_cons, List.not_mem_nil, or_false]; omega)]
          by_cases hc : 640 ≤ b
          · rw [u4 b j (by omega), f3.rn (by simp only [List.mem_cons, List.not_mem_nil, or_false]; omega)]
          · rw [f4.rn (by simp only [List.mem_cons, List.not_mem_nil, or_false]; omega), rN_wI_ne (by omega)]
/-- told once, or a number given -/
theorem tod_ok {k d : Int32} {ls : List Lnq} (hS : SQ M) (hL : LQT M 0 ls) (H : Ev none e 182 0 [some (.ref 633), some (.int k), some (.int d), none] [] M v M' 0 0) : v = some (.int (tvS ls k d)) ∧ M' = M := by
  obtain ⟨e1, v1, M1, he, H1, H⟩ := toq_0 hS H
  obtain ⟨rfl, y, rfl, hy⟩ := fdq_ok hS hL (Nat.zero_le _) rfl H1
  rcases toq_6 hS H with ⟨q, _, rfl, rfl⟩ | ⟨q, rfl, rfl⟩
  · rcases hy with ⟨x, _⟩ | ⟨_, _, _, x⟩
    · rw [Int32.lt_iff_toInt_lt] at x
      rw [Int32.le_iff_toInt_le] at q
      omega
    · rw [x d]
      exact ⟨rfl, rfl⟩
  · rcases hy with ⟨_, _, x⟩ | ⟨x, _⟩
    · rw [x d]
      exact ⟨rfl, rfl⟩
    · rw [Int32.le_iff_toInt_le] at q
      exact absurd x q
theorem LQT.frm {t : Nat} {ls : List Lnq} {F : List (Nat × Nat)} {W : List Nat} (h : LQT M t ls) (hF : FB F W M M') (w : ∀ b ∈ [639, 640, 641, 642, 643, 644], b ∉ W) : LQT M' t ls := by
  refine ⟨by rw [hF.rn (w _ (by simp))]; exact h.1, h.2.1, fun j l hj => ?_⟩
  rw [hF.rn (w _ (by simp)), hF.rn (w _ (by simp)), hF.rn (w _ (by simp)), hF.rn (w _ (by simp)), hF.rn (w _ (by simp))]
  exact h.2.2 j l hj
theorem TXR.frm {t : Nat} {q : Sg × List Lnq} {F : List (Nat × Nat)} {W : List Nat} (h : TXR M t q) (hF : FB F W M M') (w : ∀ b ∈ [639, 640, 641, 642, 643, 644, 645, 646, 647], b ∉ W) : TXR M' t q := by
  refine ⟨h.1.frm hF (fun b hb => w b (by simp only [List.mem_cons, List.not_mem_nil, or_false] at hb ⊢; omega)), fun j c hj hc => ?_⟩
  rw [hF.rn (w _ (by simp)), hF.rn (w _ (by simp)), hF.rn (w _ (by simp))]
  exact h.2 j c hj hc
def fQt : List (Nat × Nat) := [(633, 0), (633, 2), (633, 3), (633, 4), (633, 28), (633, 29), (633, 30)] ++ fQl
theorem tkn {m : Mem} (hS : SQ m) : SQ (X_139 (wF m 633 0 0)) ∧ FB [(633, 0), (633, 2), (633, 3), (633, 4)] [] m (X_139 (wF m 633 0 0)) ∧ zI (X_139 (wF m 633 0 0)) 633 3 = zI m 633 2 ∧ zI (X_139 (wF m 633 0 0)) 633 4 = 0 ∧ zI (X_139 (wF m 633 0 0)) 633 2 = 0 ∧ zI (X_139 (wF m 633 0 0)) 633 0 = 0 := by
  have s1 := hS.kf (a := 633) (k := 0) (x := 0)
  refine ⟨X_139_sx s1, ?_, ?_, ?_, ?_, ?_⟩ <;> unfold X_139
  · exact (((FB.wF (by simp)).trans (FB.wF (by simp))).trans (FB.wF (by simp))).trans (FB.wF (by simp))
  · rw [fI_wF_ne (by decide), fI_wF_ne (by decide), fI_wF_eq s1.1 qa_633 qi_61_3, fI_wF_ne (by decide)]
  · rw [fI_wF_eq s1.kf.kf.1 qa_633 qi_61_4]
  · rw [fI_wF_ne (by decide), fI_wF_eq s1.kf.1 qa_633 qi_61_2]
  · rw [fI_wF_ne (by decide), fI_wF_ne (by decide), fI_wF_ne (by decide), fI_wF_eq hS.1 qa_633 qi_61_0]
theorem rlaw_ok (hn2 : n ≤ 440) (hk : 33 ≤ kk) (hS : SQ M) (hn : (zI M 633 2).toInt = (n : Int)) (H : Ev none e 183 0 [some (.ref 633), none] [] M v M' 0 0) : (∃ x, v = some (.int x) ∧ x.toInt = ansB (rdB (bR M) n true ((prS (bR M) kk).1 1))) ∧ SQ M' ∧ FA fQt wQl M M' ∧ zI M' 633 26 = fltB (rdB (bR M) n true ((prS (bR M) kk).1 1)) ∧ zI M' 633 2 = 0 ∧ zI M' 633 0 = 0 ∧ (match rdB (bR M) n true ((prS (bR M) kk).1 1) with
    | .inr _ => zI M' 633 28 = zI M 633 28 ∧ zI M' 633 29 = zI M 633 29 ∧ zI M' 633 30 = zI M 633 30 ∧ ∀ t', t' < 7 → ∀ q, TXR M t' q → TXR M' t' q
    | .inl q => TXR M' 0 q ∧ zI M' 633 28 = tvS q.2 2 40 ∧ zI M' 633 29 = tvS q.2 3 50 ∧ zI M' 633 30 = tvS q.2 4 10) ∧ ∀ t', t' < 7 → t' ≠ 0 → ∀ q, TXR M t' q → TXR M' t' q := by
  obtain ⟨e1, v1, M1, he, H1, H⟩ := lrq_0 hS H
  obtain ⟨s0, f0, z3, z4, z2, z0⟩ := tkn hS
  have b0 : bR (X_139 (wF M 633 0 0)) = bR M := f0.bR (by decide)
  have R := rtx_ok (t := 0) (law := true) rfl (by omega) rfl hn2 hk s0 (by rw [z3]; exact hn) z4 H1
  rw [b0] at R
  obtain ⟨⟨x, rfl, hx⟩, s1, f1, w1, R, lo⟩ := R
  have f0t : FA fQt wQl M (X_139 (wF M 633 0 0)) := f0.1.more (by decide) (fun _ hq => by cases hq)
  have f1t : FA fQt wQl (X_139 (wF M 633 0 0)) M1 := f1.more (by decide) (fun _ hq => hq)
  cases hr : rdB (bR M) n true ((prS (bR M) kk).1 1) with
  | inr f =>
    rw [hr] at hx w1 R
    have hx : x.toInt = -1 - (f.2 : Int) := hx
    rcases lrq_15 s1 H with ⟨q, _⟩ | ⟨_, rfl, rfl⟩
    · rw [Int32.le_iff_toInt_le] at q
      have z0 : (0 : Int32).toInt = 0 := rfl
      omega
    · exact ⟨⟨x, rfl, hx⟩, s1, f0t.trans f1t, w1, by rw [f1.fi (by decide)]; exact z2, by rw [f1.fi (by decide)]; exact z0, ⟨by rw [f1.fi (by decide), f0.fi (by decide)], by rw [f1.fi (by decide), f0.fi (by decide)], by rw [f1.fi (by decide), f0.fi (by decide)], fun t' h1 q h => h.low (t := t' + 1) h1 (by omega) (fun b i a1 _ => (R b i a1).trans (f0.2 b i a1))⟩, fun t' h1 h2 q h => h.low h1 h2 (fun b i a1 a2 => (lo b i a1 a2).trans (f0.2 b i a1))⟩
  | inl q =>
    rw [hr] at hx w1 R
    have hx : x.toInt = (q.2.length : Int) := hx
    rcases lrq_15 s1 H with ⟨_, e2, v2, M2, he2, H2, Ha⟩ | ⟨y, _⟩
    · obtain ⟨rfl, rfl⟩ := tod_ok s1 R.1 H2
      obtain ⟨e3, v3, M3, he3, H3, Hb⟩ := lrq_30 s1 Ha
      have g1 : FB [(633, 28)] [] M2 (wF M2 633 28 (tvS q.2 2 40)) := FB.wF (by simp)
      obtain ⟨rfl, rfl⟩ := tod_ok s1.kf (R.1.frm g1 (fun _ _ h => by cases h)) H3
      obtain ⟨e4, v4, M4, he4, H4, Hc⟩ := lrq_41 s1.kf Hb
      have g2 : FB [(633, 28), (633, 29)] [] M2 (wF (wF M2 633 28 (tvS q.2 2 40)) 633 29 (tvS q.2 3 50)) := (FB.wF (by simp)).trans (FB.wF (by simp))
      obtain ⟨rfl, rfl⟩ := tod_ok s1.kf.kf (R.1.frm g2 (fun _ _ h => by cases h)) H4
      obtain ⟨rfl, rfl⟩ := lrq_52 s1.kf.kf Hc
      have g3 : FB [(633, 28), (633, 29), (633, 30)] [] M2 (wF (wF (wF M2 633 28 (tvS q.2 2 40)) 633 29 (tvS q.2 3 50)) 633 30 (tvS q.2 4 10)) := ((FB.wF (by simp)).trans (FB.wF (by simp))).trans (FB.wF (by simp))
      refine ⟨⟨x, rfl, hx⟩, s1.kf.kf.kf, (f0t.trans f1t).trans (g3.1.more (by decide) (fun _ hq => by cases hq)), by rw [g3.fi (by decide)]; exact w1, by rw [g3.fi (by decide), f1.fi (by decide)]; exact z2, by rw [g3.fi (by decide), f1.fi (by decide)]; exact z0, ⟨R.frm g3 (fun _ _ h => by cases h), ?_, ?_, ?_⟩, fun t' h1 h2 q h => h.low h1 h2 (fun b i a1 a2 => (g3.2 b i a1).trans ((lo b i a1 a2).trans (f0.2 b i a1)))⟩
      · rw [fI_wF_ne (by decide), fI_wF_ne (by decide), fI_wF_eq s1.1 qa_633 qi_61_28]
      · rw [fI_wF_ne (by decide), fI_wF_eq s1.kf.1 qa_633 qi_61_29]
      · rw [fI_wF_eq s1.kf.kf.1 qa_633 qi_61_30]
    · rw [Int32.le_iff_toInt_le] at y
      have z0 : (0 : Int32).toInt = 0 := rfl
      omega
theorem rhab_out {x : Int32} (hS : SQ M) (hx : ¬ (0 ≤ x.toInt ∧ x.toInt ≤ 5)) (H : Ev none e 184 0 [some (.ref 633), some (.int x)] [] M v M' 0 0) : v = some (.int (-1000)) ∧ M' = X_139 (wF M 633 0 0) := by
  rcases hrq_0 hS H with ⟨_, h⟩ | ⟨q, _⟩
  · exact h
  · exfalso
    refine q (g140.mpr ?_)
    rw [Int32.lt_iff_toInt_lt, Int32.lt_iff_toInt_lt]
    have z0 : (0 : Int32).toInt = 0 := rfl
    have z5 : (5 : Int32).toInt = 5 := rfl
    omega
theorem rhab_ok {x : Int32} {t : Nat} (ht : x.toInt = (t : Int)) (ht5 : t ≤ 5) (hn2 : n ≤ 440) (hk : 33 ≤ kk) (hS : SQ M) (hn : (zI M 633 2).toInt = (n : Int)) (H : Ev none e 184 0 [some (.ref 633), some (.int x)] [] M v M' 0 0) : (∃ x, v = some (.int x) ∧ x.toInt = ansB (rdB (bR M) n false ((prS (bR M) kk).1 1))) ∧ SQ M' ∧ FA fQt wQl M M' ∧ zI M' 633 26 = fltB (rdB (bR M) n false ((prS (bR M) kk).1 1)) ∧ zI M' 633 2 = 0 ∧ zI M' 633 0 = 0 ∧ (match rdB (bR M) n false ((prS (bR M) kk).1 1) with
    | .inr _ => ∀ t', t' < 7 → ∀ q, TXR M t' q → TXR M' t' q
    | .inl q => TXR M' (t + 1) q) ∧ ∀ t', t' < 7 → t' ≠ t + 1 → ∀ q, TXR M t' q → TXR M' t' q := by
  have z0 : (0 : Int32).toInt = 0 := rfl
  have z5 : (5 : Int32).toInt = 5 := rfl
  have z1 : (1 : Int32).toInt = 1 := rfl
  rcases hrq_0 hS H with ⟨q, _⟩ | ⟨_, e1, v1, M1, he, H1, H⟩
  · have q := g140.mp q
    rw [Int32.lt_iff_toInt_lt, Int32.lt_iff_toInt_lt] at q
    omega
  · obtain ⟨s0, f0, z3, z4, z2, z0⟩ := tkn hS
    have b0 : bR (X_139 (wF M 633 0 0)) = bR M := f0.bR (by decide)
    have R := rtx_ok (t := t + 1) (law := false) rfl (by omega) (by rw [i32_add (by omega) (by omega), z1, ht]; omega) hn2 hk s0 (by rw [z3]; exact hn) z4 H1
    rw [b0] at R
    obtain ⟨⟨y, rfl, hy⟩, s1, f1, w1, R, lo⟩ := R
    obtain ⟨rfl, rfl⟩ := hrq_26 s1 H
    refine ⟨⟨y, rfl, hy⟩, s1, (f0.1.more (by decide) (fun _ hq => by cases hq)).trans (f1.more (by decide) (fun _ hq => hq)), w1, by rw [f1.fi (by decide)]; exact z2, by rw [f1.fi (by decide)]; exact z0, ?_, fun t' h1 h2 q h => h.low h1 h2 (fun b i a1 a2 => (lo b i a1 a2).trans (f0.2 b i a1))⟩
    cases hr : rdB (bR M) n false ((prS (bR M) kk).1 1) with
    | inr f =>
      rw [hr] at R
      exact fun t' h1 q h => h.low (t := t' + 1) h1 (by omega) (fun b i a1 _ => (R b i a1).trans (f0.2 b i a1))
    | inl q =>
      rw [hr] at R
      exact R
theorem rflt_ok (hS : SQ M) (H : Ev none e 185 0 [some (.ref 633)] [] M v M' 0 0) : v = some (.int (zI M 633 26)) ∧ M' = wF M 633 0 0 := by
  obtain ⟨h1, h2⟩ := g_185 hS H
  exact ⟨h1, h2⟩
end RTO
/-! Exceptions that leave a method, and their catching (the kit's rows) -/
section VXA
/-! The laws vx_back, vx_callV, vx_callS, vx_callSW, vx_throw0, vx_throwS follow proofs of the library, with one case more: JvmDerived/Free/Laws.lean (Back.of_free), Shelf42/LK1.lean (callV, callS), Shelf/KitTraced.lean (throwNew0V, throwNewS). -/
/-- where a method has thrown q: the class by its name, the cell, what was written, the world -/
def vx_T (XC : String → State → State → Prop) (st : State) (q : Addr) (t : State) (mc ms : Nat) (free : Addr → Prop) : Prop :=
  ∃ (E : String) (ce : Cell) (L : List Loc), XC E st t ∧ t.heap[q]? = some ce ∧ ce.vm = .none ∧ st.vm.findClass E = some ce.cls ∧ st.WarmedH t.vm ∧ st.sameButNew ({ t with vm := st.vm } : State) L mc ms ∧ ∀ z ∈ L, free z.base
def vx_Q (Qc : Array Value → State → Outcome → State → Prop) (XC : String → State → State → Prop) (mc ms : Nat) (free : Addr → Prop) : Array Value → State → Outcome → State → Prop := fun a st o t =>
  (Qc a st o t ∧ ∃ L, FrameEnd st o t L mc ms ∧ ∀ q ∈ L, free q.base) ∨ ∃ q, o = .threw q ∧ vx_T XC st q t mc ms free
/-- a callee that returns or throws -/
def vx_Met (l : Launch) (y : MethodName) (ws : List Cond) (rm : Room) (Pc : Array Value → State → Prop) (Qc : Array Value → State → Outcome → State → Prop) (XC : String → State → State → Prop) (mc ms : Nat) (free : Addr → Prop) : Prop :=
  MetFree l y (headSpec ws rm) Pc (fun _ _ _ _ _ => True) (vx_Q Qc XC mc ms free)
def vx_Post (XC : String → State → State → Prop) (mc ms : Nat) (free : Addr → Prop) : Pt → Array Value → Addr → Pt → Prop := fun A a q B =>
  ∃ (g : JFrame) (mk : MethodId) (t : State) (L : List Loc) (E : String) (ce : Cell), B.U.heap = t.heap ∧ B.U.vm = t.vm ∧ XC E (A.U.calling g mk a) t ∧ t.heap[q]? = some ce ∧ ce.vm = .none ∧ A.U.vm.findClass E = some ce.cls ∧ B.locs = A.locs ++ L ∧ (∀ z ∈ L, free z.base) ∧ B.cells = A.cells + mc ∧ B.slots = A.slots + ms
def vx_Back (l : Launch) (R : Room) (p : Program) (e : Env) (below : List Frame) (s : State) (sargs : Array Value) (y : MethodName) (len W9 : Nat)
    (Pre : Pt → Array Value → Prop) (Post : Pt → Array Value → Option Value → Pt → Prop) (PostX : Pt → Array Value → Addr → Pt → Prop) : Prop :=
  ∀ (m : MethodId) (meth : Method) (c : Code) (A : Pt) (g : JFrame) (ig : Instr) (mk : MethodId) (a : Array Value),
    Stand p l e R s m sargs below meth c A.U A.locs A.cells A.slots → g.method = m → g.locals.size = c.maxLocals → decode c.code g.pc = .ok (ig, len) →
    2 * g.monitorRoom + (g.stack.map fun v => v.category).sum ≤ W9 → A.U.methodNamed? y = some mk → Pre A a →
    (∃ (v : Option Value) (B : Pt), Stand p l e R s m sargs below meth c B.U B.locs B.cells B.slots ∧ Post A a v B ∧
      Steps p.tables e below (doInvoke e (A.U.setTop g) [] mk a).1 (B.U.setTop { g with pc := g.pc + len, stack := v.toList ++ g.stack })) ∨
    (∃ (q : Addr) (B : Pt), Stand p l e R s m sargs below meth c B.U B.locs B.cells B.slots ∧ PostX A a q B ∧
      Steps p.tables e below (doInvoke e (A.U.setTop g) [] mk a).1 ((B.U.setTop g).pushFrame (.throwing q)))
section Payer
variable {l : Launch} {R : Room} {p : Program} {e : Env} {below : List Frame} {s : State} {sargs : Array Value} {y : MethodName} {len W9 : Nat}
theorem vx_back {ws : List Cond} {rm : Room} {Pc : Array Value → State → Prop} {Qc : Array Value → State → Outcome → State → Prop} {XC : String → State → State → Prop} {mc ms : Nat} {free : Addr → Prop} {bytes : ByteArray} {maxL : Nat} {ret : Option FieldType}
    (hM : vx_Met l y ws rm Pc Qc XC mc ms free) (hblind : FrameBlind Pc) (hrc : rm.cells = mc) (hrs : rm.slots = ms)
    (hframes : rm.frames + 1 ≤ R.frames) (hlocals : W9 + (maxL + 11) + rm.locals ≤ R.locals)
    (hws : ∀ w ∈ ws, ∀ a' U, s.WarmedH U.vm → w.before a' U = true) (hcode : Cond.code y bytes maxL ret ∈ ws) (hinit : ∀ a' U, s.WarmedH U.vm → (Cond.initialized y.cls).before a' U = true) :
    vx_Back l R p e below s sargs y len W9 (PreOf R mc ms Pc) (PostOf Qc mc ms free) (vx_Post XC mc ms free) := by
  intro m meth c A g ig mk a X hg hsize hdg hW hn hp
  have h1 : (headSpec ws rm).pre.before a A.U = true := atoms_intro fun w hw => hws w hw _ _ X.warmed
  have h2 : (Cond.code y bytes maxL ret).before a A.U = true := hws _ hcode _ _ X.warmed
  have h3 : (Cond.initialized y.cls).before a A.U = true := hinit _ _ X.warmed
  have h4 : A.cells + (headSpec ws rm).room.cells ≤ R.cells := by rw [show (headSpec ws rm).room.cells = mc from hrc]; exact hp.1
  have h5 : A.slots + (headSpec ws rm).room.slots ≤ R.slots := by rw [show (headSpec ws rm).room.slots = ms from hrs]; exact hp.2.1
  have hPc : Pc a (A.U.calling g mk a) := hblind _ _ _ _ hp.2.2
  obtain ⟨U, Ls, c0, s0⟩ := A
  dsimp only [Pt.U, Pt.locs, Pt.cells, Pt.slots] at h1 h2 h3 h4 h5 X hn hPc ⊢
  obtain ⟨methY, cY, hmY, hcY, -, hlY, -, -, -, -⟩ := Cond.code_spec hn h2
  obtain ⟨kY, hkY, -⟩ := className_of_methodNamed hn
  have hinitY : kY.init = .initialized := Cond.initialized_spec (findClass_of_methodNamed hn) hkY h3
  have h : At U g.method c below := by rw [hg]; exact X.here
  have hlocals9 : W9 + (maxL + 11) + (headSpec ws rm).room.locals ≤ R.locals := hlocals
  have happ : (headSpec ws rm).appliesLoose y e.platform (U.calling g mk a) = true :=
    Spec.appliesLoose_calling (g := g) h hdg hn hkY hinitY
      (X.room_calling (g := g) (R' := (headSpec ws rm).room) hsize hmY hcY hframes (by rw [hlY]; omega) h4 h5) h1
  obtain ⟨mid, hmid⟩ := h.above
  have hfr : (U.setTop g).frames = (.java g :: mid) ++ below := by rw [State.frames_setTop' g h.top, hmid]; rfl
  obtain ⟨o, s₂, hsteps, -, hend, hq⟩ := Steps.callFree hM p X.admits X.cas X.clock (acts := []) hfr happ hPc trivial
  have hq' : vx_Q Qc XC mc ms free a (U.calling g mk a) o s₂ := hq
  rw [State.frames_setTop' g h.top] at hend
  obtain ⟨g₀, hg0⟩ := Option.isSome_iff_exists.mp h.top
  obtain ⟨r, hr⟩ := State.topJava?_eq_some.mp hg0
  have hr' : (({ U with heap := s₂.heap, slotsUsed := s₂.slotsUsed } : State).setVm s₂.vm).frames = .java g₀ :: r := hr
  rcases hq' with ⟨hqc, L, hfe, hL⟩ | ⟨q, rfl, E, ce, L, hx, hce, hcv, hcl, hW₂, hsm, hL⟩
  · obtain ⟨⟨v, rfl⟩, hW₂, e2, q2, q3, q4, q5, q6⟩ := id hfe
    have e3 : s₂ = ({ (U.calling g mk a).setFrames s₂.frames with heap := s₂.heap, slotsUsed := s₂.slotsUsed } : State).setVm s₂.vm := by
      have : s₂ = ({ s₂ with vm := (U.calling g mk a).vm } : State).setVm s₂.vm := rfl
      rw [e2] at this
      exact this
    obtain ⟨c₂, i₂, len₂, hc₂, hd₂, hf₂⟩ := hend
    have hW' : U.WarmedH s₂.vm := hW₂
    have hcc : c₂ = c := by
      have h1 : s₂.code? g.method = U.code? g.method := by
        rw [State.code?_eq, State.code?_eq, hW'.alike.method?]
      exact Option.some.inj (hc₂.symm.trans (h1.trans h.code))
    subst hcc
    have hlen : len₂ = len := by rw [hdg] at hd₂; cases hd₂; rfl
    subst hlen
    have hs₂ : s₂ = (({ U with heap := s₂.heap, slotsUsed := s₂.slotsUsed } : State).setVm s₂.vm).setTop { g with pc := g.pc + len₂, stack := v.toList ++ g.stack } := by
      refine e3.trans ?_
      rw [hf₂, State.calling_eq h.top, State.setFrames_setFrames, State.setTop_of_frames _ hr', hr]
      rfl
    have hsame : U.sameButNew ({ U with heap := s₂.heap, slotsUsed := s₂.slotsUsed } : State) L mc ms := by
      refine ⟨?_, q2, q3, q4, q5, q6⟩
      obtain ⟨t, ht, -⟩ := State.frames_cons hr
      show ({ U with heap := s₂.heap, slotsUsed := s₂.slotsUsed } : State) = { U.setFrames U.frames with heap := s₂.heap, slotsUsed := s₂.slotsUsed }
      rw [State.setFrames_self ht]
    subst hg
    refine Or.inl ⟨v, ⟨(({ U with heap := s₂.heap, slotsUsed := s₂.slotsUsed } : State).setVm s₂.vm), Ls ++ L, c0 + mc, s0 + ms⟩,
      ⟨X.admits, X.cas, X.clock, X.frames, X.room, X.hears, X.method, X.code, (X.here.setHeapUsed s₂.heap s₂.slotsUsed).setVm hW'.alike, X.tail, State.WarmedH.trans X.warmed hW', X.limits, X.bytes, X.same.trans (hsame.setVm s.vm)⟩,
      ⟨g, mk, s₂, L, rfl, rfl, hqc, rfl, hL, rfl, rfl⟩, ?_⟩
    show Steps p.tables e below _ ((({ U with heap := s₂.heap, slotsUsed := s₂.slotsUsed } : State).setVm s₂.vm).setTop { g with pc := g.pc + len₂, stack := v.toList ++ g.stack })
    rw [← hs₂]
    exact hsteps
  · obtain ⟨e2, q2, q3, q4, q5, q6⟩ := id hsm
    have e3 : s₂ = ({ (U.calling g mk a).setFrames s₂.frames with heap := s₂.heap, slotsUsed := s₂.slotsUsed } : State).setVm s₂.vm := by
      have : s₂ = ({ s₂ with vm := (U.calling g mk a).vm } : State).setVm s₂.vm := rfl
      rw [e2] at this
      exact this
    have hf₂ : s₂.frames = .throwing q :: .java g :: U.frames.tail := hend
    have hW' : U.WarmedH s₂.vm := hW₂
    have hs₂ : s₂ = ((({ U with heap := s₂.heap, slotsUsed := s₂.slotsUsed } : State).setVm s₂.vm).setTop g).pushFrame (.throwing q) := by
      refine e3.trans ?_
      rw [hf₂, State.calling_eq h.top, State.setFrames_setFrames, State.pushFrame, State.frames_setTop _ hr', State.setTop_of_frames _ hr', State.setFrames_setFrames, hr]
      rfl
    have hsame : U.sameButNew ({ U with heap := s₂.heap, slotsUsed := s₂.slotsUsed } : State) L mc ms := by
      refine ⟨?_, q2, q3, q4, q5, q6⟩
      obtain ⟨t, ht, -⟩ := State.frames_cons hr
      show ({ U with heap := s₂.heap, slotsUsed := s₂.slotsUsed } : State) = { U.setFrames U.frames with heap := s₂.heap, slotsUsed := s₂.slotsUsed }
      rw [State.setFrames_self ht]
    subst hg
    refine Or.inr ⟨q, ⟨(({ U with heap := s₂.heap, slotsUsed := s₂.slotsUsed } : State).setVm s₂.vm), Ls ++ L, c0 + mc, s0 + ms⟩,
      ⟨X.admits, X.cas, X.clock, X.frames, X.room, X.hears, X.method, X.code, (X.here.setHeapUsed s₂.heap s₂.slotsUsed).setVm hW'.alike, X.tail, State.WarmedH.trans X.warmed hW', X.limits, X.bytes, X.same.trans (hsame.setVm s.vm)⟩,
      ⟨g, mk, s₂, L, E, ce, rfl, rfl, hx, hce, hcv, hcl, rfl, hL, rfl, rfl⟩, ?_⟩
    show Steps p.tables e below _ (((({ U with heap := s₂.heap, slotsUsed := s₂.slotsUsed } : State).setVm s₂.vm).setTop g).pushFrame (.throwing q))
    rw [← hs₂]
    exact hsteps
end Payer
section Calls
variable {p : Program} {l : Launch} {e : Env} {R : Room} {s : State} {m : MethodId} {args : Array Value} {below : List Frame} {meth : Method} {c : Code} {T : State} {locs : List Loc} {cells slots : Nat}
theorem vx_callV (X : Stand p l e R s m args below meth c T locs cells slots) (hexec : p.tables.exec = Jvm.exec) {own C : String} {index : Nat} {y : MethodName} {bytes : ByteArray} {maxL : Nat} {ret : Option FieldType}
    (hown : s.vm.findClass own = some m.cls) (hlink : (Cond.methodLink own index y).before args s = true) (hinst : (Cond.instanceMethod y).before args s = true) (hsel : (Cond.selects C y y).before args s = true)
    (hcode : (Cond.code y bytes maxL ret).before args s = true) (hy : y.cls ≠ "java/lang/invoke/MethodHandle" ∧ y.cls ≠ "java/lang/invoke/VarHandle")
    {W9 : Nat} {Pre : Pt → Array Value → Prop} {Post : Pt → Array Value → Option Value → Pt → Prop} {PostX : Pt → Array Value → Addr → Pt → Prop} (hK : vx_Back l R p e below s args y 3 W9 Pre Post PostX)
    {b : Addr} {cellB : Cell} (hcell : T.heap[b]? = some cellB) (hobj : cellB.vm.isStatics = false) (hcls : s.vm.findClass C = some cellB.cls)
    {g : JFrame} (hg : g.method = m) (hsize : g.locals.size = c.maxLocals) {argsL rest : List Value} (hlen : ∀ sig, parseMethodDescriptor y.desc = some sig → argsL.length = sig.parameters.length)
    (hstack : g.stack = argsL.reverse ++ .ref b :: rest) (hW : 2 * g.monitorRoom + (rest.map fun v => v.category).sum ≤ W9) (hdg : decode c.code g.pc = .ok (.invokevirtual index, 3))
    (hpre : ∀ vm₁, s.WarmedH vm₁ → Pre ⟨T.setVm vm₁, locs, cells, slots⟩ (Value.ref b :: argsL).toArray) :
    (∃ (v : Option Value) (vm₁ : Vm) (B : Pt), s.WarmedH vm₁ ∧ Stand p l e R s m args below meth c B.U B.locs B.cells B.slots ∧ Post ⟨T.setVm vm₁, locs, cells, slots⟩ (Value.ref b :: argsL).toArray v B ∧
      ∀ target, Steps p.tables e below (B.U.setTop { g with pc := g.pc + 3, stack := v.toList ++ rest }) target → Steps p.tables e below (T.setTop g) target) ∨
    (∃ (q : Addr) (vm₁ : Vm) (B : Pt), s.WarmedH vm₁ ∧ Stand p l e R s m args below meth c B.U B.locs B.cells B.slots ∧ PostX ⟨T.setVm vm₁, locs, cells, slots⟩ (Value.ref b :: argsL).toArray q B ∧
      Steps p.tables e below (T.setTop g) ((B.U.setTop { g with stack := rest }).pushFrame (.throwing q))) := by
  obtain ⟨mk, methM, hnamed, hmethM, hstM, habM⟩ := Cond.instanceMethod_spec hinst
  obtain ⟨methM', cM, hmethM', -, -, -, -, -, -, hsigM⟩ := Cond.code_spec hnamed hcode
  cases hmethM.symm.trans hmethM'
  obtain ⟨c2, r2, m2, q1, q2, q3, q4, kP, hkP, hkPi⟩ := Cond.selects_spec hsel
  cases hcls.symm.trans q1
  cases (State.methodFound?_of_named hnamed hy).symm.trans q2
  cases hnamed.symm.trans q3
  have hselP : selectMethod e.platform s.vm cellB.cls mk = .method mk := by rw [Launch.admits_selectMethod X.admits]; exact q4
  obtain ⟨vm₁, X₁, hstep₁⟩ := X.invokevirtual hexec hown hlink hnamed hmethM hstM hkP hkPi hy (a := b) (cell := cellB) hcell
    (fun z h => by rw [h] at hobj; cases hobj) hselP hmethM habM hkP hkPi (g := g) hg (argsL := argsL) (rest := rest) (hlen _ hsigM) hstack hdg
  rcases hK m meth c ⟨T.setVm vm₁, locs, cells, slots⟩ { g with stack := rest } (.invokevirtual index) mk (Value.ref b :: argsL).toArray X₁ hg hsize hdg hW (X₁.named hnamed) (hpre vm₁ X₁.warmed) with ⟨v, B, X', hpost, hsteps⟩ | ⟨q, B, X', hpost, hsteps⟩
  · exact Or.inl ⟨v, vm₁, B, X₁.warmed, X', hpost, fun target h => hstep₁ _ fun acts => by rw [doInvoke_state]; exact hsteps.trans h⟩
  · exact Or.inr ⟨q, vm₁, B, X₁.warmed, X', hpost, hstep₁ _ fun acts => by rw [doInvoke_state]; exact hsteps⟩
theorem vx_callS (X : Stand p l e R s m args below meth c T locs cells slots) (hexec : p.tables.exec = Jvm.exec) {own : String} {index : Nat} {y : MethodName} {bytes : ByteArray} {maxL : Nat} {ret : Option FieldType}
    (hown : s.vm.findClass own = some m.cls) (hlink : (Cond.methodLink own index y).before args s = true) (hstat : (Cond.static y).before args s = true) (hinit : (Cond.initialized y.cls).before args s = true)
    (hcode : (Cond.code y bytes maxL ret).before args s = true) (hy : y.cls ≠ "java/lang/invoke/MethodHandle" ∧ y.cls ≠ "java/lang/invoke/VarHandle")
    {W9 : Nat} {Pre : Pt → Array Value → Prop} {Post : Pt → Array Value → Option Value → Pt → Prop} {PostX : Pt → Array Value → Addr → Pt → Prop} (hK : vx_Back l R p e below s args y 3 W9 Pre Post PostX)
    {g : JFrame} (hg : g.method = m) (hsize : g.locals.size = c.maxLocals) {argsL rest : List Value} (hlen : ∀ sig, parseMethodDescriptor y.desc = some sig → argsL.length = sig.parameters.length)
    (hstack : g.stack = argsL.reverse ++ rest) (hW : 2 * g.monitorRoom + (rest.map fun v => v.category).sum ≤ W9) (hdg : decode c.code g.pc = .ok (.invokestatic index, 3))
    (hpre : ∀ vm₁, s.WarmedH vm₁ → Pre ⟨T.setVm vm₁, locs, cells, slots⟩ argsL.toArray) :
    (∃ (v : Option Value) (vm₁ : Vm) (B : Pt), s.WarmedH vm₁ ∧ Stand p l e R s m args below meth c B.U B.locs B.cells B.slots ∧ Post ⟨T.setVm vm₁, locs, cells, slots⟩ argsL.toArray v B ∧
      ∀ target, Steps p.tables e below (B.U.setTop { g with pc := g.pc + 3, stack := v.toList ++ rest }) target → Steps p.tables e below (T.setTop g) target) ∨
    (∃ (q : Addr) (vm₁ : Vm) (B : Pt), s.WarmedH vm₁ ∧ Stand p l e R s m args below meth c B.U B.locs B.cells B.slots ∧ PostX ⟨T.setVm vm₁, locs, cells, slots⟩ argsL.toArray q B ∧
      Steps p.tables e below (T.setTop g) ((B.U.setTop { g with stack := rest }).pushFrame (.throwing q))) := by
  obtain ⟨mk, hnamed⟩ := Cond.code_named hcode
  obtain ⟨methM, cM, hmethM, -, -, -, -, -, -, hsigM⟩ := Cond.code_spec hnamed hcode
  have hstatic : methM.isStatic = true := Cond.static_spec hnamed hmethM hstat
  obtain ⟨kP, hkP, -⟩ := className_of_methodNamed hnamed
  have hinitP : kP.init = .initialized := Cond.initialized_spec (findClass_of_methodNamed hnamed) hkP hinit
  obtain ⟨vm₁, X₁, hstep₁⟩ := X.invokestatic hexec hown hlink hnamed hmethM hstatic hkP hinitP hy (g := g) hg (argsL := argsL) (rest := rest) (hlen _ hsigM) hstack hdg
  rcases hK m meth c ⟨T.setVm vm₁, locs, cells, slots⟩ { g with stack := rest } (.invokestatic index) mk argsL.toArray X₁ hg hsize hdg hW (X₁.named hnamed) (hpre vm₁ X₁.warmed) with ⟨v, B, X', hpost, hsteps⟩ | ⟨q, B, X', hpost, hsteps⟩
  · exact Or.inl ⟨v, vm₁, B, X₁.warmed, X', hpost, fun target h => hstep₁ _ fun acts => by rw [doInvoke_state]; exact hsteps.trans h⟩
  · exact Or.inr ⟨q, vm₁, B, X₁.warmed, X', hpost, hstep₁ _ fun acts => by rw [doInvoke_state]; exact hsteps⟩
end Calls
theorem vx_cls {s : State} {T : State} {vm₁ : Vm} {E : String} {k : ClassId} (hW : s.WarmedH vm₁) (h : (T.setVm vm₁).vm.findClass E = some k) : s.vm.findClass E = some k := by
  have h1 : vm₁.findClass E = some k := h
  rw [hW.alike.findClass] at h1
  exact h1
/-- the method's frame g, with q thrown over it -/
def vx_W (p : Program) (l : Launch) (e : Env) (R : Room) (s : State) (m : MethodId) (args : Array Value) (below : List Frame) (meth : Method) (c : Code) (H : Heap) (locs : List Loc) (cells slots : Nat) (Q : State → Prop) (g : JFrame) (q : Addr) : Prop :=
  ∀ T : State, T.heap = H → Stand p l e R s m args below meth c T locs cells slots → ∃ t, Steps p.tables e below ((T.setTop g).pushFrame (.throwing q)) t ∧ Q t
def vx_Run (p : Program) (l : Launch) (e : Env) (R : Room) (s : State) (m : MethodId) (args : Array Value) (below : List Frame) (meth : Method) (c : Code) (H : Heap) (locs : List Loc) (cells slots mc ms : Nat) (g : JFrame) (rest : List Value) (Qa : State → Outcome → State → Prop) (XC : String → State → State → Prop) (free : Addr → Prop) : Prop :=
  ∀ T : State, T.heap = H → Stand p l e R s m args below meth c T locs cells slots →
    (∃ (v : Option Value) (st₀ t T' : State) (L : List Loc), st₀.heap = H ∧ Stand p l e R s m args below meth c T' (locs ++ L) (cells + mc) (slots + ms) ∧ (∀ q ∈ L, free q.base) ∧ T'.heap = t.heap ∧ T'.vm = t.vm ∧ Qa st₀ (.returned v) t ∧
      Goes p e below T g T' { g with pc := g.pc + 3, stack := v.toList ++ rest }) ∨
    (∃ (q : Addr) (st₀ t T' : State) (L : List Loc) (E : String) (ce : Cell), st₀.heap = H ∧ Stand p l e R s m args below meth c T' (locs ++ L) (cells + mc) (slots + ms) ∧ (∀ z ∈ L, free z.base) ∧ T'.heap = t.heap ∧ T'.vm = t.vm ∧ XC E st₀ t ∧ t.heap[q]? = some ce ∧ ce.vm = .none ∧ s.vm.findClass E = some ce.cls ∧
      Steps p.tables e below (T.setTop g) ((T'.setTop { g with stack := rest }).pushFrame (.throwing q)))
def vx_X {S : Type} (px : S → Prop) (B : String → S → State → Prop) (A : Nat → Prop) : String → State → State → Prop := fun E st t => ∃ u : S, px u ∧ B E u t ∧ va_F A st t
section Runs
variable {p : Program} {l : Launch} {e : Env} {R : Room} {s : State} {m : MethodId} {args : Array Value} {below : List Frame} {meth : Method} {c : Code} {H : Heap} {locs : List Loc} {cells slots : Nat}
variable {y : MethodName} {bytes cc : ByteArray} {maxL nL mc ms n index : Nat} {ret : Option FieldType} {ws : List Cond} {rm : Room} {Pc : Array Value → State → Prop} {Qc : Array Value → State → Outcome → State → Prop} {XC : String → State → State → Prop} {free : Addr → Prop} {Ts : List Cond} {own C : String} {b : Addr} {As rest : List Value} {g : JFrame}
theorem vx_callBack (cb : CallB R s args own index y bytes maxL ret ws rm mc ms n) (hM : vx_Met l y ws rm Pc Qc XC mc ms free) (hbl : FrameBlind Pc) : vx_Back l R p e below s args y 3 8 (PreOf R mc ms Pc) (PostOf Qc mc ms free) (vx_Post XC mc ms free) := by
  obtain ⟨hrc, hrs, hfr, hlo, hws, hcw, -, hini, -⟩ := cb
  exact vx_back (bytes := bytes) (maxL := maxL) (ret := ret) hM hbl hrc hrs hfr hlo hws hcw (fun a' U hW => word_at hW (Or.inl (by first | rfl | simp [Cond.onTables, Cond.keeps, Cond.steady])) hini)
theorem vx_runV (S : CallFix p m c cc nL s args Ts own) (hM : vx_Met l y ws rm Pc Qc XC mc ms free) (cw : CallW R s args own C index y bytes maxL ret ws rm mc ms n) (hp : PreV s H C b Pc As)
    (hg : g.method = m) (hn : As.length = n) (hsize : g.locals.size = nL) (hstack : g.stack = As.reverse ++ .ref b :: rest) (hW : 2 * g.monitorRoom + (rest.map fun v => v.category).sum ≤ 8) (hdg : decode cc g.pc = .ok (.invokevirtual index, 3)) (hf : cells + mc ≤ R.cells ∧ slots + ms ≤ R.slots) :
    vx_Run p l e R s m args below meth c H locs cells slots mc ms g rest (Qc (Value.ref b :: As).toArray) XC free := by
  have hK : vx_Back l R p e below s args y 3 8 (PreOf R mc ms Pc) (PostOf Qc mc ms free) (vx_Post XC mc ms free) := vx_callBack cw.1 hM hp.1
  obtain ⟨⟨-, -, -, -, -, -, hcode, -, hy, hlen, hl⟩, hin, hse⟩ := cw
  obtain ⟨hx, hb, hml, ho, -⟩ := S
  obtain ⟨-, ⟨cellB, hcB, hoB, hclB⟩, hPc⟩ := hp
  intro T hT X
  rcases vx_callV X hx (C := C) (bytes := bytes) (maxL := maxL) (ret := ret) ho hl hin hse hcode hy hK (by rw [hT]; exact hcB) hoB hclB hg (hsize.trans hml.symm) (argsL := As) (rest := rest) (fun sig h => hn.trans (hlen sig h)) hstack hW (by rw [hb]; exact hdg)
    (fun vm₁ hW₁ => ⟨hf.1, hf.2, hPc (T.setVm vm₁) hT hW₁⟩) with ⟨v, vm₁, ⟨U', l2, c2, s2⟩, hW₁, X', ⟨g', mk, t, L, e1, e2, hq, h1, hL, h2, h3⟩, st⟩ | ⟨q, vm₁, ⟨U', l2, c2, s2⟩, hW₁, X', ⟨g', mk, t, L, E, ce, e1, e2, hq, hce, hcv, hcl, h1, hL, h2, h3⟩, st⟩
  · dsimp only [Pt.U, Pt.locs, Pt.cells, Pt.slots] at X' e1 e2 h1 h2 h3 st
    subst h1; subst h2; subst h3
    exact Or.inl ⟨v, (T.setVm vm₁).calling g' mk (Value.ref b :: As).toArray, t, U', L, hT, X', hL, e1, e2, hq, st⟩
  · dsimp only [Pt.U, Pt.locs, Pt.cells, Pt.slots] at X' e1 e2 h1 h2 h3 st hcl
    subst h1; subst h2; subst h3
    exact Or.inr ⟨q, (T.setVm vm₁).calling g' mk (Value.ref b :: As).toArray, t, U', L, E, ce, hT, X', hL, e1, e2, hq, hce, hcv, vx_cls hW₁ hcl, st⟩
theorem vx_runS (S : CallFix p m c cc nL s args Ts own) (hM : vx_Met l y ws rm Pc Qc XC mc ms free) (cw : CallB R s args own index y bytes maxL ret ws rm mc ms n ∧ (Cond.static y).before args s = true) (hp : PreS s H Pc As)
    (hg : g.method = m) (hn : As.length = n) (hsize : g.locals.size = nL) (hstack : g.stack = As.reverse ++ rest) (hW : 2 * g.monitorRoom + (rest.map fun v => v.category).sum ≤ 8) (hdg : decode cc g.pc = .ok (.invokestatic index, 3)) (hf : cells + mc ≤ R.cells ∧ slots + ms ≤ R.slots) :
    vx_Run p l e R s m args below meth c H locs cells slots mc ms g rest (Qc As.toArray) XC free := by
  have hK : vx_Back l R p e below s args y 3 8 (PreOf R mc ms Pc) (PostOf Qc mc ms free) (vx_Post XC mc ms free) := vx_callBack cw.1 hM hp.1
  obtain ⟨⟨-, -, -, -, -, -, hcode, hini, hy, hlen, hl⟩, hstt⟩ := cw
  obtain ⟨hx, hb, hml, ho, -⟩ := S
  intro T hT X
  rcases vx_callS X hx (bytes := bytes) (maxL := maxL) (ret := ret) ho hl hstt hini hcode hy hK hg (hsize.trans hml.symm) (argsL := As) (rest := rest) (fun sig h => hn.trans (hlen sig h)) hstack hW (by rw [hb]; exact hdg)
    (fun vm₁ hW₁ => ⟨hf.1, hf.2, hp.2 (T.setVm vm₁) hT hW₁⟩) with ⟨v, vm₁, ⟨U', l2, c2, s2⟩, hW₁, X', ⟨g', mk, t, L, e1, e2, hq, h1, hL, h2, h3⟩, st⟩ | ⟨q, vm₁, ⟨U', l2, c2, s2⟩, hW₁, X', ⟨g', mk, t, L, E, ce, e1, e2, hq, hce, hcv, hcl, h1, hL, h2, h3⟩, st⟩
  · dsimp only [Pt.U, Pt.locs, Pt.cells, Pt.slots] at X' e1 e2 h1 h2 h3 st
    subst h1; subst h2; subst h3
    exact Or.inl ⟨v, (T.setVm vm₁).calling g' mk As.toArray, t, U', L, hT, X', hL, e1, e2, hq, st⟩
  · dsimp only [Pt.U, Pt.locs, Pt.cells, Pt.slots] at X' e1 e2 h1 h2 h3 st hcl
    subst h1; subst h2; subst h3
    exact Or.inr ⟨q, (T.setVm vm₁).calling g' mk As.toArray, t, U', L, E, ce, hT, X', hL, e1, e2, hq, hce, hcv, vx_cls hW₁ hcl, st⟩
end Runs
section Rows
variable {p : Program} {l : Launch} {e : Env} {R : Room} {s : State} {m : MethodId} {args : Array Value} {below : List Frame} {meth : Method} {c : Code} {H : Heap} {locs : List Loc} {cells slots : Nat} {Q : State → Prop}
variable {mc ms : Nat} {free : Addr → Prop} {A0 A1 : Nat → Prop} {H0 : Heap} {a : Array Value} {pc : Nat} {ls : Array Slot} {st0 rest : List Value}
theorem vx_keep {st₀ t T' : State} {L : List Loc} (h0 : st₀.heap = H) (e1 : T'.heap = t.heap) (hS : va_S A0 H0 H locs) (hA : ∀ q, q < H.size → A1 q → A0 q) (hf : ∀ q, free q → A0 q) (hL : ∀ q ∈ L, free q.base) (hF : va_F A1 st₀ t) :
    H.size ≤ T'.heap.size ∧ (∀ q : Nat, q < H.size → ¬ A1 q → T'.heap[q]? = H[q]?) ∧ va_S A0 H0 T'.heap (locs ++ L) := by
  obtain ⟨hz, hk⟩ := hF
  rw [h0] at hz hk
  exact ⟨by rw [e1]; exact hz, fun q h1 h2 => by rw [e1]; exact hk q h1 h2,
    ⟨Nat.le_trans hS.1 (by rw [e1]; exact hz), fun q h1 h2 => by rw [e1, hk q (Nat.lt_of_lt_of_le h1 hS.1) (fun z => h2 (hA q (Nat.lt_of_lt_of_le h1 hS.1) z))]; exact hS.2.1 q h1 h2, fun q hq => by
      rcases List.mem_append.mp hq with h | h
      · exact hS.2.2 q h
      · exact hf _ (hL q h)⟩⟩
theorem vx_calli {S SX : Type} {post : Int32 → S → Prop} {px : SX → Prop} {B : S → State → Prop} {BX : String → SX → State → Prop} {AX : Nat → Prop} (hr : vx_Run p l e R s m args below meth c H locs cells slots mc ms (F0 m pc ls st0) rest (va_Qi post B A1 a) (vx_X px BX AX) free) (hS : va_S A0 H0 H locs) (hA : ∀ q, q < H.size → A1 q → A0 q) (hf : ∀ q, free q → A0 q) (hAX : ∀ q, q < H.size → AX q → A0 q)
    (kx : ∀ (E : String) (ce : Cell) (q9 : Addr) (u : SX) (t : State) (H1 : Heap) (locs1 : List Loc), t.heap = H1 → s.vm.Alike t.vm → px u → BX E u t → H.size ≤ H1.size → (∀ q : Nat, q < H.size → ¬ AX q → H1[q]? = H[q]?) → va_S A0 H0 H1 locs1 → H1[q9]? = some ce → ce.vm = .none → s.vm.findClass E = some ce.cls → vx_W p l e R s m args below meth c H1 locs1 (cells + mc) (slots + ms) Q (F0 m pc ls rest) q9)
    (kk : ∀ (r : Int32) (u : S) (t : State) (H1 : Heap) (locs1 : List Loc), t.heap = H1 → s.vm.Alike t.vm → post r u → B u t → H.size ≤ H1.size → (∀ q : Nat, q < H.size → ¬ A1 q → H1[q]? = H[q]?) → va_S A0 H0 H1 locs1 → W p l e R s m args below meth c H1 locs1 (cells + mc) (slots + ms) Q (F0 m (pc + 3) ls (.int r :: rest))) : W p l e R s m args below meth c H locs cells slots Q (F0 m pc ls st0) := by
  intro T hT X
  rcases hr T hT X with ⟨v, st₀, t, T', L, h0, X', hL, e1, e2, ⟨⟨r, u, hv, hp, hb⟩, hF⟩, st⟩ | ⟨q, st₀, t, T', L, E, ce, h0, X', hL, e1, e2, ⟨u, hp, hb, hF⟩, hce, hcv, hcl, st⟩
  · cases hv
    obtain ⟨k1, k2, k3⟩ := vx_keep h0 e1 hS hA hf hL hF
    obtain ⟨t2, a1, b1⟩ := kk r u t T'.heap (locs ++ L) e1.symm (by rw [← e2]; exact X'.warmed.alike) hp hb k1 k2 k3 T' rfl X'
    exact ⟨t2, st t2 a1, b1⟩
  · obtain ⟨k1, k2, k3⟩ := vx_keep h0 e1 hS hAX hf hL hF
    obtain ⟨t2, a1, b1⟩ := kx E ce q u t T'.heap (locs ++ L) e1.symm (by rw [← e2]; exact X'.warmed.alike) hp hb k1 k2 k3 (by rw [e1]; exact hce) hcv hcl T' rfl X'
    exact ⟨t2, st.trans a1, b1⟩
theorem vx_calll {S SX : Type} {post : Int64 → S → Prop} {px : SX → Prop} {B : S → State → Prop} {BX : String → SX → State → Prop} {AX : Nat → Prop} (hr : vx_Run p l e R s m args below meth c H locs cells slots mc ms (F0 m pc ls st0) rest (va_Ql post B A1 a) (vx_X px BX AX) free) (hS : va_S A0 H0 H locs) (hA : ∀ q, q < H.size → A1 q → A0 q) (hf : ∀ q, free q → A0 q) (hAX : ∀ q, q < H.size → AX q → A0 q)
    (kx : ∀ (E : String) (ce : Cell) (q9 : Addr) (u : SX) (t : State) (H1 : Heap) (locs1 : List Loc), t.heap = H1 → s.vm.Alike t.vm → px u → BX E u t → H.size ≤ H1.size → (∀ q : Nat, q < H.size → ¬ AX q → H1[q]? = H[q]?) → va_S A0 H0 H1 locs1 → H1[q9]? = some ce → ce.vm = .none → s.vm.findClass E = some ce.cls → vx_W p l e R s m args below meth c H1 locs1 (cells + mc) (slots + ms) Q (F0 m pc ls rest) q9)
    (kk : ∀ (r : Int64) (u : S) (t : State) (H1 : Heap) (locs1 : List Loc), t.heap = H1 → s.vm.Alike t.vm → post r u → B u t → H.size ≤ H1.size → (∀ q : Nat, q < H.size → ¬ A1 q → H1[q]? = H[q]?) → va_S A0 H0 H1 locs1 → W p l e R s m args below meth c H1 locs1 (cells + mc) (slots + ms) Q (F0 m (pc + 3) ls (.long r :: rest))) : W p l e R s m args below meth c H locs cells slots Q (F0 m pc ls st0) := by
  intro T hT X
  rcases hr T hT X with ⟨v, st₀, t, T', L, h0, X', hL, e1, e2, ⟨⟨r, u, hv, hp, hb⟩, hF⟩, st⟩ | ⟨q, st₀, t, T', L, E, ce, h0, X', hL, e1, e2, ⟨u, hp, hb, hF⟩, hce, hcv, hcl, st⟩
  · cases hv
    obtain ⟨k1, k2, k3⟩ := vx_keep h0 e1 hS hA hf hL hF
    obtain ⟨t2, a1, b1⟩ := kk r u t T'.heap (locs ++ L) e1.symm (by rw [← e2]; exact X'.warmed.alike) hp hb k1 k2 k3 T' rfl X'
    exact ⟨t2, st t2 a1, b1⟩
  · obtain ⟨k1, k2, k3⟩ := vx_keep h0 e1 hS hAX hf hL hF
    obtain ⟨t2, a1, b1⟩ := kx E ce q u t T'.heap (locs ++ L) e1.symm (by rw [← e2]; exact X'.warmed.alike) hp hb k1 k2 k3 (by rw [e1]; exact hce) hcv hcl T' rfl X'
    exact ⟨t2, st.trans a1, b1⟩
theorem vx_callf {S SX : Type} {post : UInt32 → S → Prop} {px : SX → Prop} {B : S → State → Prop} {BX : String → SX → State → Prop} {AX : Nat → Prop} (hr : vx_Run p l e R s m args below meth c H locs cells slots mc ms (F0 m pc ls st0) rest (va_Qf post B A1 a) (vx_X px BX AX) free) (hS : va_S A0 H0 H locs) (hA : ∀ q, q < H.size → A1 q → A0 q) (hf : ∀ q, free q → A0 q) (hAX : ∀ q, q < H.size → AX q → A0 q)
    (kx : ∀ (E : String) (ce : Cell) (q9 : Addr) (u : SX) (t : State) (H1 : Heap) (locs1 : List Loc), t.heap = H1 → s.vm.Alike t.vm → px u → BX E u t → H.size ≤ H1.size → (∀ q : Nat, q < H.size → ¬ AX q → H1[q]? = H[q]?) → va_S A0 H0 H1 locs1 → H1[q9]? = some ce → ce.vm = .none → s.vm.findClass E = some ce.cls → vx_W p l e R s m args below meth c H1 locs1 (cells + mc) (slots + ms) Q (F0 m pc ls rest) q9)
    (kk : ∀ (r : UInt32) (u : S) (t : State) (H1 : Heap) (locs1 : List Loc), t.heap = H1 → s.vm.Alike t.vm → post r u → B u t → H.size ≤ H1.size → (∀ q : Nat, q < H.size → ¬ A1 q → H1[q]? = H[q]?) → va_S A0 H0 H1 locs1 → W p l e R s m args below meth c H1 locs1 (cells + mc) (slots + ms) Q (F0 m (pc + 3) ls (.float r :: rest))) : W p l e R s m args below meth c H locs cells slots Q (F0 m pc ls st0) := by
  intro T hT X
  rcases hr T hT X with ⟨v, st₀, t, T', L, h0, X', hL, e1, e2, ⟨⟨r, u, hv, hp, hb⟩, hF⟩, st⟩ | ⟨q, st₀, t, T', L, E, ce, h0, X', hL, e1, e2, ⟨u, hp, hb, hF⟩, hce, hcv, hcl, st⟩
  · cases hv
    obtain ⟨k1, k2, k3⟩ := vx_keep h0 e1 hS hA hf hL hF
    obtain ⟨t2, a1, b1⟩ := kk r u t T'.heap (locs ++ L) e1.symm (by rw [← e2]; exact X'.warmed.alike) hp hb k1 k2 k3 T' rfl X'
    exact ⟨t2, st t2 a1, b1⟩
  · obtain ⟨k1, k2, k3⟩ := vx_keep h0 e1 hS hAX hf hL hF
    obtain ⟨t2, a1, b1⟩ := kx E ce q u t T'.heap (locs ++ L) e1.symm (by rw [← e2]; exact X'.warmed.alike) hp hb k1 k2 k3 (by rw [e1]; exact hce) hcv hcl T' rfl X'
    exact ⟨t2, st.trans a1, b1⟩
theorem vx_calld {S SX : Type} {post : UInt64 → S → Prop} {px : SX → Prop} {B : S → State → Prop} {BX : String → SX → State → Prop} {AX : Nat → Prop} (hr : vx_Run p l e R s m args below meth c H locs cells slots mc ms (F0 m pc ls st0) rest (va_Qd post B A1 a) (vx_X px BX AX) free) (hS : va_S A0 H0 H locs) (hA : ∀ q, q < H.size → A1 q → A0 q) (hf : ∀ q, free q → A0 q) (hAX : ∀ q, q < H.size → AX q → A0 q)
    (kx : ∀ (E : String) (ce : Cell) (q9 : Addr) (u : SX) (t : State) (H1 : Heap) (locs1 : List Loc), t.heap = H1 → s.vm.Alike t.vm → px u → BX E u t → H.size ≤ H1.size → (∀ q : Nat, q < H.size → ¬ AX q → H1[q]? = H[q]?) → va_S A0 H0 H1 locs1 → H1[q9]? = some ce → ce.vm = .none → s.vm.findClass E = some ce.cls → vx_W p l e R s m args below meth c H1 locs1 (cells + mc) (slots + ms) Q (F0 m pc ls rest) q9)
    (kk : ∀ (r : UInt64) (u : S) (t : State) (H1 : Heap) (locs1 : List Loc), t.heap = H1 → s.vm.Alike t.vm → post r u → B u t → H.size ≤ H1.size → (∀ q : Nat, q < H.size → ¬ A1 q → H1[q]? = H[q]?) → va_S A0 H0 H1 locs1 → W p l e R s m args below meth c H1 locs1 (cells + mc) (slots + ms) Q (F0 m (pc + 3) ls (.double r :: rest))) : W p l e R s m args below meth c H locs cells slots Q (F0 m pc ls st0) := by
  intro T hT X
  rcases hr T hT X with ⟨v, st₀, t, T', L, h0, X', hL, e1, e2, ⟨⟨r, u, hv, hp, hb⟩, hF⟩, st⟩ | ⟨q, st₀, t, T', L, E, ce, h0, X', hL, e1, e2, ⟨u, hp, hb, hF⟩, hce, hcv, hcl, st⟩
  · cases hv
    obtain ⟨k1, k2, k3⟩ := vx_keep h0 e1 hS hA hf hL hF
    obtain ⟨t2, a1, b1⟩ := kk r u t T'.heap (locs ++ L) e1.symm (by rw [← e2]; exact X'.warmed.alike) hp hb k1 k2 k3 T' rfl X'
    exact ⟨t2, st t2 a1, b1⟩
  · obtain ⟨k1, k2, k3⟩ := vx_keep h0 e1 hS hAX hf hL hF
    obtain ⟨t2, a1, b1⟩ := kx E ce q u t T'.heap (locs ++ L) e1.symm (by rw [← e2]; exact X'.warmed.alike) hp hb k1 k2 k3 (by rw [e1]; exact hce) hcv hcl T' rfl X'
    exact ⟨t2, st.trans a1, b1⟩
theorem vx_callv {S SX : Type} {post : S → Prop} {px : SX → Prop} {B : S → State → Prop} {BX : String → SX → State → Prop} {AX : Nat → Prop} (hr : vx_Run p l e R s m args below meth c H locs cells slots mc ms (F0 m pc ls st0) rest (va_Qv post B A1 a) (vx_X px BX AX) free) (hS : va_S A0 H0 H locs) (hA : ∀ q, q < H.size → A1 q → A0 q) (hf : ∀ q, free q → A0 q) (hAX : ∀ q, q < H.size → AX q → A0 q)
    (kx : ∀ (E : String) (ce : Cell) (q9 : Addr) (u : SX) (t : State) (H1 : Heap) (locs1 : List Loc), t.heap = H1 → s.vm.Alike t.vm → px u → BX E u t → H.size ≤ H1.size → (∀ q : Nat, q < H.size → ¬ AX q → H1[q]? = H[q]?) → va_S A0 H0 H1 locs1 → H1[q9]? = some ce → ce.vm = .none → s.vm.findClass E = some ce.cls → vx_W p l e R s m args below meth c H1 locs1 (cells + mc) (slots + ms) Q (F0 m pc ls rest) q9)
    (kk : ∀ (u : S) (t : State) (H1 : Heap) (locs1 : List Loc), t.heap = H1 → s.vm.Alike t.vm → post u → B u t → H.size ≤ H1.size → (∀ q : Nat, q < H.size → ¬ A1 q → H1[q]? = H[q]?) → va_S A0 H0 H1 locs1 → W p l e R s m args below meth c H1 locs1 (cells + mc) (slots + ms) Q (F0 m (pc + 3) ls (rest))) : W p l e R s m args below meth c H locs cells slots Q (F0 m pc ls st0) := by
  intro T hT X
  rcases hr T hT X with ⟨v, st₀, t, T', L, h0, X', hL, e1, e2, ⟨⟨u, hv, hp, hb⟩, hF⟩, st⟩ | ⟨q, st₀, t, T', L, E, ce, h0, X', hL, e1, e2, ⟨u, hp, hb, hF⟩, hce, hcv, hcl, st⟩
  · cases hv
    obtain ⟨k1, k2, k3⟩ := vx_keep h0 e1 hS hA hf hL hF
    obtain ⟨t2, a1, b1⟩ := kk u t T'.heap (locs ++ L) e1.symm (by rw [← e2]; exact X'.warmed.alike) hp hb k1 k2 k3 T' rfl X'
    exact ⟨t2, st t2 a1, b1⟩
  · obtain ⟨k1, k2, k3⟩ := vx_keep h0 e1 hS hAX hf hL hF
    obtain ⟨t2, a1, b1⟩ := kx E ce q u t T'.heap (locs ++ L) e1.symm (by rw [← e2]; exact X'.warmed.alike) hp hb k1 k2 k3 (by rw [e1]; exact hce) hcv hcl T' rfl X'
    exact ⟨t2, st.trans a1, b1⟩
/-- caught by the row x of this method's table; the rows ahead don't take it -/
theorem vx_catch {own name : String} {E : String} {ce : Cell} {q : Addr} (hown : s.vm.findClass own = some m.cls) (pre : List ExceptionTableEntry) (x : ExceptionTableEntry) (suf : List ExceptionTableEntry) (hsplit : c.exceptionTable.toList = pre ++ x :: suf)
    (hpass : ∀ z ∈ pre, covers z pc = false ∨ (z.catchType ≠ 0 ∧ ∃ nm : String, (Cond.classLink own z.catchType nm).before args s = true ∧ va_Nc E nm s)) (hx : covers x pc = true) (h0 : x.catchType ≠ 0)
    (hlink : (Cond.classLink own x.catchType name).before args s = true) (hcast : (Cond.castable E name).before args s = true) (hcell : H[q]? = some ce) (hv : ce.vm = .none) (hcl : s.vm.findClass E = some ce.cls)
    (kk : W p l e R s m args below meth c H locs cells slots Q (F0 m x.handlerPc ls [.ref q])) : vx_W p l e R s m args below meth c H locs cells slots Q (F0 m pc ls rest) q := by
  intro T hT X
  have hpl : e.platform.magicAccessors = ({} : Platform).magicAccessors := by rw [X.admits.platform]
  obtain ⟨c3, c4, hc3, hc4, hasg⟩ := Cond.castable_spec hcast
  cases Option.some.inj (hc3.symm.trans hcl)
  obtain ⟨c5, hc5, hcl5⟩ := Cond.classLink_spec hown hlink e.platform hpl
  cases Option.some.inj (hc4.symm.trans hc5)
  obtain ⟨vm', X', st⟩ := X.thenCaughtThrough q (g := F0 m pc ls rest) rfl (Steps.refl _) (by rw [hT]; exact hcell) (by rw [hv]; rfl) (by obtain ⟨k9, h9, -⟩ := Vm.findClass_spec hcl; exact ⟨k9, h9⟩) pre x suf hsplit
    (fun z hz => by
      rcases hpass z hz with h | ⟨hz0, nm, hl1, hn1⟩
      · exact Or.inl h
      · obtain ⟨c6, hc6, hcl6⟩ := Cond.classLink_spec hown hl1 e.platform hpl
        obtain ⟨a8, b8, h1, h2, h3⟩ := hn1
        cases Option.some.inj (h1.symm.trans hcl)
        cases Option.some.inj (h2.symm.trans hc6)
        exact Or.inr ⟨hz0, _, hcl6, h3⟩) hx (Or.inr ⟨h0, c4, hcl5, hasg⟩)
  obtain ⟨t, a1, b1⟩ := kk (T.setVm vm') hT X'
  exact ⟨t, st.trans a1, b1⟩
end Rows
section Ends
variable {p : Program} {l : Launch} {e : Env} {R : Room} {s : State} {m : MethodId} {args : Array Value} {below : List Frame} {meth : Method} {c : Code} {H : Heap} {locs : List Loc} {cells slots : Nat} {Q : State → Prop}
variable {mc ms : Nat} {free : Addr → Prop} {A0 A1 : Nat → Prop} {H0 : Heap} {a : Array Value} {ls : Array Slot} {st0 rest : List Value}
variable {Qc : Array Value → State → Outcome → State → Prop} {XC : String → State → State → Prop}
/-- what a body that may throw owes at its end -/
def vx_MQ (below : List Frame) (Qc : Array Value → State → Outcome → State → Prop) (XC : String → State → State → Prop) (a : Array Value) (s : State) (mc ms : Nat) (free : Addr → Prop) : State → Prop := fun t =>
  ∃ o, t.status = .running ∧ Ended t below o ∧ vx_Q Qc XC mc ms free a s o t
theorem vx_ret {g : JFrame} {mc ms : Nat} (k : W p l e R s m args below meth c H locs cells slots (MQ below Qc args s mc ms free) g) : W p l e R s m args below meth c H locs cells slots (vx_MQ below Qc XC args s mc ms free) g := by
  intro T hT X
  obtain ⟨t, a1, o, b1, b2, b3, b4⟩ := k T hT X
  exact ⟨t, a1, o, b1, b2, Or.inl ⟨b3, b4⟩⟩
/-- not caught here: it goes on to the caller -/
theorem vx_widen {g : JFrame} {q : Addr} {k n : Nat} (h1 : cells ≤ k) (h2 : slots ≤ n) (kk : vx_W p l e R s m args below meth c H locs k n Q g q) : vx_W p l e R s m args below meth c H locs cells slots Q g q := fun T hT X => kk T hT (stand_widen X h1 h2)
theorem vx_out {pc : Nat} {E : String} {ce : Cell} {q : Addr} {mc ms : Nat} (hout : ∀ x ∈ c.exceptionTable.toList, covers x pc = false) (hlocks : meth.locks = false) (hcell : H[q]? = some ce) (hv : ce.vm = .none) (hcl : s.vm.findClass E = some ce.cls)
    (hx : ∀ t : State, t.heap = H → s.vm.Alike t.vm → XC E s t) (hf : ∀ z ∈ locs, free z.base) (hc : cells ≤ mc) (hs : slots ≤ ms) :
    vx_W p l e R s m args below meth c H locs cells slots (vx_MQ below Qc XC args s mc ms free) (F0 m pc ls rest) q := by
  intro T hT X
  obtain ⟨st1, hrun, hend, hW, hsm⟩ := X.leaveThrown q (g := F0 m pc ls rest) rfl rfl rfl hout hlocks
  have hcell9 : (T.setFrames (.throwing q :: below)).heap[q]? = some ce := by
    show T.heap[q]? = some ce
    rw [hT]; exact hcell
  exact ⟨_, st1, .threw q, hrun, hend, Or.inr ⟨q, rfl, E, ce, locs, hx _ hT hW.alike, hcell9, hv, hcl, hW, hsm.mono hc hs, hf⟩⟩
theorem vx_frame {U : State} {k n : Nat} (h : s.sameButNew ({ U with vm := s.vm } : State) locs k n) : s.heap.size ≤ U.heap.size ∧ ∀ q : Nat, q < s.heap.size → (∀ z ∈ locs, z.base ≠ q) → U.heap[q]? = s.heap[q]? := by
  obtain ⟨-, h2, -, -, -, h6⟩ := h
  refine ⟨h2, fun q hq hz => ?_⟩
  obtain ⟨c9, e1, e2, e3, e4⟩ := h6 q _ (Array.getElem?_eq_getElem hq)
  have hs : c9.slots = (s.heap[q]).slots := Array.ext_getElem? fun i => e4 i fun hm => hz _ hm rfl
  have h9 : c9 = s.heap[q] := by
    rw [hs] at e2
    exact e2
  have e5 : U.heap[q]? = some c9 := e1
  rw [e5, h9, Array.getElem?_eq_getElem hq]
/-- the words of a throw but the four that speak of the heap -/
def vx_no (w : Cond) : Bool := decide (w ≠ .isRef (.static Bundle.tN "UNASSIGNED_STACK" Bundle.steD)) && decide (w ≠ .isRef (.static Bundle.tN "SUPPRESSED_SENTINEL" Bundle.listD)) && decide (w ≠ .laysStatic Bundle.tN "UNASSIGNED_STACK" Bundle.steD) && decide (w ≠ .laysStatic Bundle.tN "SUPPRESSED_SENTINEL" Bundle.listD)
def vx_at0 (own : String) (ic : Nat) (X : String) (names : List String) : List Cond := (Bundle.ownAtoms0 own ic X names).filter vx_no
def vx_atS (own : String) (ic : Nat) (X : String) (names : List String) : List Cond := (Bundle.ownAtoms own ic X names).filter vx_no
/-- a word that the tables alone decide, or a good one -/
def vx_ot (w : Cond) : Bool := w.onTables || goodWord w
theorem vx_ot_at {args a' : Array Value} {s U : State} {w : Cond} (hW : s.WarmedH U.vm) (hvm : s.vm = U.vm) (hg : vx_ot w = true) (h : w.before args s = true) : w.before a' U = true := by
  simp only [vx_ot, Bool.or_eq_true] at hg
  rcases hg with hg | hg
  · exact va_tabs hg hvm h
  · exact word_at hW (good_of_word hg) h
/-- a list's words: the good ones out of the method's own list, the others by premises of their own -/
theorem vx_hat {args : Array Value} {s : State} {L B : List Cond} (h1 : ∀ w ∈ L.filter goodWord, w.before args s = true) (h2 : ∀ w ∈ L.filter (fun w => !goodWord w), w ∈ B) (h3 : ∀ w ∈ B, w.before args s = true) : ∀ w ∈ L, w.before args s = true := by
  intro w hw
  by_cases g : goodWord w = true
  · exact h1 w (List.mem_filter.mpr ⟨hw, g⟩)
  · refine h3 w (h2 w (List.mem_filter.mpr ⟨hw, ?_⟩))
    show (!goodWord w) = true
    cases hgw : goodWord w
    · rfl
    · exact absurd hgw g
theorem vx_c {args : Array Value} {s : State} {w : Cond} {B : List Cond} (h : w.before args s = true) (t : ∀ w ∈ B, w.before args s = true) : ∀ w' ∈ w :: B, w'.before args s = true := fun w' h' => (List.mem_cons.mp h').elim (fun e => by rw [e]; exact h) (t w')
theorem vx_n {args : Array Value} {s : State} : ∀ w ∈ ([] : List Cond), w.before args s = true := fun _ h => nomatch h
theorem vx_own {args : Array Value} {s : State} {L : List Cond} (h1 : ∀ w ∈ L.filter vx_no, w.before args s = true)
    (hU : (Cond.isRef (.static Bundle.tN "UNASSIGNED_STACK" Bundle.steD)).before args s = true) (hN : (Cond.isRef (.static Bundle.tN "SUPPRESSED_SENTINEL" Bundle.listD)).before args s = true)
    (lU : (Cond.laysStatic Bundle.tN "UNASSIGNED_STACK" Bundle.steD).before args s = true) (lN : (Cond.laysStatic Bundle.tN "SUPPRESSED_SENTINEL" Bundle.listD).before args s = true) : ∀ w ∈ L, w.before args s = true := by
  intro w hw
  by_cases e1 : w = .isRef (.static Bundle.tN "UNASSIGNED_STACK" Bundle.steD)
  · rw [e1]; exact hU
  · by_cases e2 : w = .isRef (.static Bundle.tN "SUPPRESSED_SENTINEL" Bundle.listD)
    · rw [e2]; exact hN
    · by_cases e3 : w = .laysStatic Bundle.tN "UNASSIGNED_STACK" Bundle.steD
      · rw [e3]; exact lU
      · by_cases e4 : w = .laysStatic Bundle.tN "SUPPRESSED_SENTINEL" Bundle.listD
        · rw [e4]; exact lN
        · exact h1 w (List.mem_filter.mpr ⟨hw, by unfold vx_no; rw [decide_eq_true e1, decide_eq_true e2, decide_eq_true e3, decide_eq_true e4]; rfl⟩)
/-- where a static field lies, its class's statics cell in H -/
def vx_L (C n d : String) (A : Nat → Prop) (U : State) (H : Heap) : Prop := ∃ (c : ClassId) (k : Class) (i : Nat) (f : Field) (a : Nat) (cell : Cell), U.vm.findClass C = some c ∧ U.fieldFound? C n d = some (c, k, i, f) ∧ f.isStatic = true ∧ k.statics = some a ∧ H[a]? = some cell ∧ cell.vm.isStatics = true ∧ cell.cls = c ∧ f.slot < cell.slots.size ∧ k.staticTypes[f.slot]? = some f.type ∧ ¬ A a
theorem vx_L.moved {C n d : String} {A : Nat → Prop} {u U : State} {H : Heap} (hvm : u.vm.Alike U.vm) (h : vx_L C n d A u H) : vx_L C n d A U H := by
  obtain ⟨c, k, i, f, a, cell, h1, h2, h3, h4, h5, h6, h7, h8, h9, h10⟩ := h
  obtain ⟨k', hi', he⟩ := State.fieldFound?_setVm hvm h2
  exact ⟨c, k', i, f, a, cell, by rw [hvm.findClass]; exact h1, hi', h3, by rw [he]; exact h4, h5, h6, h7, h8, by rw [he]; exact h9, h10⟩
theorem vx_L.kept {C n d : String} {A : Nat → Prop} {U : State} {H H1 : Heap} (h : vx_L C n d A U H) (hq : ∀ a : Nat, a < H.size → ¬ A a → H1[a]? = H[a]?) : vx_L C n d A U H1 := by
  obtain ⟨c, k, i, f, a, cell, h1, h2, h3, h4, h5, h6, h7, h8, h9, h10⟩ := h
  exact ⟨c, k, i, f, a, cell, h1, h2, h3, h4, by rw [hq a (Array.getElem?_eq_some_iff.mp h5).1 h10]; exact h5, h6, h7, h8, h9, h10⟩
theorem vx_L.narrow {C n d : String} {A B : Nat → Prop} {U : State} {H : Heap} (h : vx_L C n d A U H) (hAB : ∀ q, B q → A q) : vx_L C n d B U H := by
  obtain ⟨c, k, i, f, a, cell, h1, h2, h3, h4, h5, h6, h7, h8, h9, h10⟩ := h
  exact ⟨c, k, i, f, a, cell, h1, h2, h3, h4, h5, h6, h7, h8, h9, fun z => h10 (hAB _ z)⟩
theorem vx_L.word {C n d : String} {A : Nat → Prop} {s : State} {args : Array Value} (h : vx_L C n d A s s.heap) : (Cond.laysStatic C n d).before args s = true := by
  obtain ⟨c, k, i, f, a, cell, h1, h2, h3, h4, h5, h6, h7, h8, h9, -⟩ := h
  show (Cond.laysStatic C n d).holds args s none s [] = true
  exact Cond.laysStatic_of h1 h2 h3 h4 h5 h6 h7 h8 h9
/-- .. and what it holds: null or some reference -/
def vx_Zq (C n d : String) (A : Nat → Prop) (U : State) (H : Heap) : Prop := va_Zq C n d A U H ∧ vx_L C n d A U H
theorem vx_Zq.moved {C n d : String} {A : Nat → Prop} {u U : State} {H : Heap} (hvm : u.vm.Alike U.vm) (h : vx_Zq C n d A u H) : vx_Zq C n d A U H := ⟨va_Zq.moved hvm h.1, vx_L.moved hvm h.2⟩
theorem vx_Zq.kept {C n d : String} {A : Nat → Prop} {U : State} {H H1 : Heap} (h : vx_Zq C n d A U H) (hq : ∀ a : Nat, a < H.size → ¬ A a → H1[a]? = H[a]?) : vx_Zq C n d A U H1 := ⟨va_Zq.kept h.1 hq, vx_L.kept h.2 hq⟩
theorem vx_Zq.narrow {C n d : String} {A B : Nat → Prop} {U : State} {H : Heap} (h : vx_Zq C n d A U H) (hAB : ∀ q, B q → A q) : vx_Zq C n d B U H := ⟨va_Zq.narrow h.1 hAB, vx_L.narrow h.2 hAB⟩
theorem vx_Zqof {args : Array Value} {s : State} {C n d : String} {A : Nat → Prop} (hl : (Cond.laysStatic C n d).before args s = true) (hini : (Cond.initialized C).before args s = true) (h : (Cond.isRef (.static C n d)).before args s = true) (hA : ∀ a : Nat, a < s.heap.size → ¬ A a) : vx_Zq C n d A s s.heap := by
  refine ⟨va_Zqof hl hini h hA, ?_⟩
  obtain ⟨c, k, i, f, a, cell, h1, h2, h3, h4, h5, h6, h7, h8, h9⟩ := Cond.laysStatic_spec hl
  exact ⟨c, k, i, f, a, cell, h1, h2, h3, h4, h5, h6, h7, h8, h9, hA a (Array.getElem?_eq_some_iff.mp h5).1⟩
theorem vx_isRef {C n d : String} {v : Value} {A : Nat → Prop} {s : State} {args : Array Value} (h : va_Z C n d v A s s.heap) (hv : v.isRef = true) : (Cond.isRef (.static C n d)).before args s = true := by
  obtain ⟨cf, kf, fi, f, a, cell, h1, h2, h3, h4, h5, h6, h7, -⟩ := h
  have he : (Term.static C n d).eval args s none [] s = some v := by
    simp [Term.eval, State.fieldNamed?, h1, h2, h4, h5, h6, h7]
  simp only [Cond.before, Cond.holds, Cond.value, he]
  cases v <;> simp_all [Value.isRef]
theorem vx_isRefq {C n d : String} {A : Nat → Prop} {s : State} {args : Array Value} (h : va_Zq C n d A s s.heap) : (Cond.isRef (.static C n d)).before args s = true := by
  rcases h with h | ⟨t, h⟩
  · exact vx_isRef h rfl
  · exact vx_isRef h rfl
/-- the same frame, seen from here: as if the method were called anew in this heap -/
theorem vx_rebase {T : State} (X : Stand p l e R s m args below meth c T locs cells slots) {R' : Room} (hf : R'.frames ≤ R.frames) (hl : R'.locals ≤ R.locals) (hc : cells + R'.cells ≤ R.cells) (hs : slots + R'.slots ≤ R.slots) :
    Stand p l e R' ((T.setVm s.vm).setFrames (.invoking m args :: below)) m args below meth c T [] 0 0 := by
  have htop : (T.setVm s.vm).topJava?.isSome := X.here.top
  have hF : ((T.setVm s.vm).setFrames (.invoking m args :: below)).frames = .invoking m args :: below := State.frames_setFrames _ (State.cur_lt_of_top htop)
  obtain ⟨g₀, hg0⟩ := Option.isSome_iff_exists.mp htop
  obtain ⟨r, hr⟩ := State.topJava?_eq_some.mp hg0
  have hl9 : e.platform.stackLimits (T.setVm s.vm).me = e.platform.stackLimits s.me := X.limits
  have hb9 : (T.setVm s.vm).me.stackBytes = s.me.stackBytes := X.bytes
  refine ⟨X.admits, X.cas, X.clock, hF, ?_, X.hears, X.method, X.code, X.here, X.tail, X.warmed, ?_, ?_, ?_⟩
  · have h := X.room
    have hU : ((T.setVm s.vm).setFrames (.invoking m args :: below)).localsInUse = s.localsInUse := by
      rw [State.localsInUse_invoking hF (meth := meth) (c := c) X.method X.code, State.localsInUse_invoking X.frames X.method X.code]
    simp only [State.hasRoom, Bool.and_eq_true, decide_eq_true_eq] at h ⊢
    obtain ⟨⟨⟨⟨h1, h2, h3, h4, h5, h6⟩, h7⟩, h8⟩, h9⟩ := h
    rw [X.frames, List.length_cons] at h2 h3
    have q1 := X.heapSize
    have q2 := X.used
    simp only [hF, hU, List.length_cons, State.stackLimits_setFrames, State.stackBytes_setFrames, hl9, hb9]
    refine ⟨⟨⟨⟨by omega, by omega, by omega, by omega, by omega, h6⟩, ?_⟩, ?_⟩, X.book⟩
    · show T.heap.size + R'.cells ≤ e.platform.maxCells
      omega
    · show T.slotsUsed + R'.slots ≤ e.platform.maxSlots
      omega
  · rw [State.stackLimits_setFrames]; rfl
  · rw [State.stackBytes_setFrames]; rfl
  · refine ⟨?_, Nat.le_refl _, Nat.le_refl _, ?_, ?_, fun a c9 h9 => ⟨c9, h9, rfl, rfl, fun _ _ => rfl⟩⟩
    · obtain ⟨t, ht, -⟩ := State.frames_cons hr
      show T.setVm s.vm = { ((T.setVm s.vm).setFrames (.invoking m args :: below)).setFrames (T.setVm s.vm).frames with heap := T.heap, slotsUsed := T.slotsUsed }
      rw [State.setFrames_setFrames, State.setFrames_self ht]
      rfl
    · show T.slotsUsed = T.slotsUsed + ((T.heap.toList.drop T.heap.size).map (·.slots.size)).sum
      rw [List.drop_eq_nil_of_le (Nat.le_of_eq Array.length_toList)]
      rfl
    · show ((T.heap.toList.drop T.heap.size).map (·.slots.size)).sum ≤ 0
      rw [List.drop_eq_nil_of_le (Nat.le_of_eq Array.length_toList)]
      exact Nat.le_refl _
end Ends
section Bodies
variable {l : Launch}
theorem vx_ofW {y : MethodName} {ws ws' : List Cond} {rm : Room} {Pc : Array Value → State → Prop} {Qc : Array Value → State → Outcome → State → Prop} {XC : String → State → State → Prop} {mc ms : Nat} {free : Addr → Prop} {cc : ByteArray} {maxL : Nat} {ret : Option FieldType}
    (hy : plainName y.cls = true) (hw : ws = Cond.code y cc maxL ret :: ws')
    (body : ∀ p e s m args below meth c s₁, BodyLoose p l y (headSpec ws rm) cc maxL ret e s m args below meth c s₁ → c.maxLocals = maxL → (∀ x ∈ c.exceptionTable.toList, False) → Pc args s →
      W p l e (headSpec ws rm).room s m args below meth c s.heap [] 0 0 (vx_MQ below Qc XC args s mc ms free) (entryFrame m args maxL)) : vx_Met l y ws rm Pc Qc XC mc ms free := by
  refine MetFree.of_bodyS (code := cc) (maxLocals := maxL) (ret := ret) hy ?_ ?_
  · intro args s m h hn
    obtain ⟨meth, c, h1, h2, h3, h4, h5, h6, -, -⟩ := Cond.code_spec hn (atoms_spec (ws := ws) h _ (by rw [hw]; exact List.mem_cons_self))
    exact ⟨meth, c, h1, h2, h3, h4, h5, h6⟩
  · intro p e s m args below meth c s₁ B hml hP _
    have hh0 : s₁.heap = s.heap := by rw [B.state]; rfl
    have ht : ∀ x ∈ c.exceptionTable.toList, False := by
      obtain ⟨meth9, c9, h1, h2, -, -, -, -, h7, -⟩ := Cond.code_spec B.named (atoms_spec (ws := ws) B.pre _ (by rw [hw]; exact List.mem_cons_self))
      cases Option.some.inj (h1.symm.trans B.method)
      cases Option.some.inj (h2.symm.trans (Stand.of_body B).code)
      intro x hx
      rw [Array.isEmpty_iff.mp h7] at hx
      cases hx
    obtain ⟨t, a1, o, b1, b2, b3⟩ := body p e s m args below meth c s₁ B hml ht hP s₁ hh0 (Stand.of_body B)
    exact ⟨t, o, a1, b1, b2, b3⟩
/-- the table of a body with handlers -/
theorem vx_table {p : Program} {x y : MethodName} {S : Spec} {cc bytes : ByteArray} {maxL maxL' : Nat} {ret ret' : Option FieldType} {e : Env} {s s₁ : State} {m : MethodId} {args : Array Value} {below : List Frame} {meth : Method} {c : Code} {hh : List (Nat × Nat × Nat × Nat)}
    (B : BodyLoose p l y S cc maxL ret e s m args below meth c s₁) (h : (Cond.codeWith y bytes maxL' ret' hh).before args s = true) : c.exceptionTable.toList = tableOf hh := by
  obtain ⟨m9, meth9, c9, hn9, h1, h2, -, -, h6, -⟩ := Cond.codeWith_spec h
  cases Option.some.inj (hn9.symm.trans B.named)
  cases Option.some.inj (h1.symm.trans B.method)
  cases Option.some.inj (h2.symm.trans (Stand.of_body B).code)
  rw [← h6, table_eq]
end Bodies
end VXA
section VXS
variable {p : Program} {l : Launch} {e : Env} {R : Room} {s : State} {m : MethodId} {args : Array Value} {below : List Frame} {meth : Method} {c : Code} {T : State} {H : Heap} {locs : List Loc} {cells slots : Nat}
abbrev vx_CSW (R : Room) (s : State) (args : Array Value) (own : String) (index : Nat) (y : MethodName) (bytes : ByteArray) (maxL : Nat) (ret : Option FieldType) (hh : List (Nat × Nat × Nat × Nat)) (ws : List Cond) (rm : Room) (mc ms n : Nat) : Prop :=
  (rm.cells = mc ∧ rm.slots = ms ∧ rm.frames + 1 ≤ R.frames ∧ 8 + (maxL + 11) + rm.locals ≤ R.locals ∧ (∀ w ∈ ws, ∀ (a' : Array Value) (U : State), s.WarmedH U.vm → w.before a' U = true) ∧ Cond.codeWith y bytes maxL ret hh ∈ ws) ∧
  (Cond.codeWith y bytes maxL ret hh).before args s = true ∧ (Cond.initialized y.cls).before args s = true ∧ (y.cls ≠ "java/lang/invoke/MethodHandle" ∧ y.cls ≠ "java/lang/invoke/VarHandle") ∧
  (∀ sig, parseMethodDescriptor y.desc = some sig → n = sig.parameters.length) ∧ (Cond.methodLink own index y).before args s = true ∧ (Cond.static y).before args s = true
theorem vx_cwSW {own : String} {index maxL mc ms : Nat} {y : MethodName} {bytes : ByteArray} {ret : Option FieldType} {hh : List (Nat × Nat × Nat × Nat)} {Ts ws ws' : List Cond} {rm : Room} (n : Nat) (ht : ∀ w ∈ Ts, w.before args s = true) (hT : GoodIn Ts (va_wsS own index y ws)) (hw : ws = Cond.codeWith y bytes maxL ret hh :: ws') (hrc : rm.cells = mc) (hrs : rm.slots = ms)
    (hd : y.cls ≠ "java/lang/invoke/MethodHandle" ∧ y.cls ≠ "java/lang/invoke/VarHandle" ∧ (parseMethodDescriptor y.desc).map (fun d => d.parameters.length) = some n) (hR : rm.frames + 1 ≤ R.frames ∧ 8 + (maxL + 11) + rm.locals ≤ R.locals) :
    vx_CSW R s args own index y bytes maxL ret hh ws rm mc ms n := by
  have ok : ∀ w ∈ va_wsS own index y ws, w.before args s = true := fun w h => ht w (hT w h).1
  have hG : GoodIn Ts ws := fun w h => hT w (by unfold va_wsS; exact List.mem_append_right _ h)
  have hc : Cond.codeWith y bytes maxL ret hh ∈ ws := by rw [hw]; exact List.mem_cons_self
  refine ⟨⟨hrc, hrs, hR.1, hR.2, pay_in ht hG, hc⟩, ht _ (hG _ hc).1, ok _ (by simp [va_wsS]), ⟨hd.1, hd.2.1⟩, fun sig h => ?_, ok _ (by simp [va_wsS]), ok _ (by simp [va_wsS])⟩
  have h2 := hd.2.2
  rw [h] at h2
  exact (Option.some.inj h2).symm
theorem vx_callSW (X : Stand p l e R s m args below meth c T locs cells slots) (hexec : p.tables.exec = Jvm.exec) {own : String} {index : Nat} {y : MethodName} {bytes : ByteArray} {maxL : Nat} {ret : Option FieldType} {hh : List (Nat × Nat × Nat × Nat)}
    (hown : s.vm.findClass own = some m.cls) (hlink : (Cond.methodLink own index y).before args s = true) (hstat : (Cond.static y).before args s = true) (hinit : (Cond.initialized y.cls).before args s = true)
    (hcode : (Cond.codeWith y bytes maxL ret hh).before args s = true) (hy : y.cls ≠ "java/lang/invoke/MethodHandle" ∧ y.cls ≠ "java/lang/invoke/VarHandle")
    {W9 : Nat} {Pre : Pt → Array Value → Prop} {Post : Pt → Array Value → Option Value → Pt → Prop} (hK : Back l R p e below s args y 3 W9 Pre Post)
    {g : JFrame} (hg : g.method = m) (hsize : g.locals.size = c.maxLocals) {argsL rest : List Value} (hlen : ∀ sig, parseMethodDescriptor y.desc = some sig → argsL.length = sig.parameters.length)
    (hstack : g.stack = argsL.reverse ++ rest) (hW : 2 * g.monitorRoom + (rest.map fun v => v.category).sum ≤ W9) (hdg : decode c.code g.pc = .ok (.invokestatic index, 3))
    (hpre : ∀ vm₁, s.WarmedH vm₁ → Pre ⟨T.setVm vm₁, locs, cells, slots⟩ argsL.toArray) :
    ∃ (v : Option Value) (vm₁ : Vm) (B : Pt), s.WarmedH vm₁ ∧ Stand p l e R s m args below meth c B.U B.locs B.cells B.slots ∧ Post ⟨T.setVm vm₁, locs, cells, slots⟩ argsL.toArray v B ∧
      ∀ target, Steps p.tables e below (B.U.setTop { g with pc := g.pc + 3, stack := v.toList ++ rest }) target → Steps p.tables e below (T.setTop g) target := by
  obtain ⟨mk, methM, cM, hnamed, hmethM, -, -, -, -, -, -, hsigM⟩ := Cond.codeWith_spec hcode
  have hstatic : methM.isStatic = true := Cond.static_spec hnamed hmethM hstat
  obtain ⟨kP, hkP, -⟩ := className_of_methodNamed hnamed
  have hinitP : kP.init = .initialized := Cond.initialized_spec (findClass_of_methodNamed hnamed) hkP hinit
  obtain ⟨vm₁, X₁, hstep₁⟩ := X.invokestatic hexec hown hlink hnamed hmethM hstatic hkP hinitP hy (g := g) hg (argsL := argsL) (rest := rest) (hlen _ hsigM) hstack hdg
  obtain ⟨v, B, X', hpost, hsteps⟩ := hK m meth c ⟨T.setVm vm₁, locs, cells, slots⟩ { g with stack := rest } (.invokestatic index) mk argsL.toArray X₁ hg hsize hdg hW (X₁.named hnamed) (hpre vm₁ X₁.warmed)
  exact ⟨v, vm₁, B, X₁.warmed, X', hpost, fun target h => hstep₁ _ fun acts => by rw [doInvoke_state]; exact hsteps.trans h⟩
theorem vx_runSW {y : MethodName} {bytes cc : ByteArray} {maxL nL mc ms n index : Nat} {ret : Option FieldType} {hh : List (Nat × Nat × Nat × Nat)} {ws : List Cond} {rm : Room} {Pc : Array Value → State → Prop} {Qc : Array Value → State → Outcome → State → Prop} {free : Addr → Prop} {Ts : List Cond} {own : String} {As rest : List Value} {g : JFrame}
    (S : CallFix p m c cc nL s args Ts own) (hM : Met l y ws rm Pc Qc mc ms free) (cw : vx_CSW R s args own index y bytes maxL ret hh ws rm mc ms n) (hp : PreS s H Pc As)
    (hg : g.method = m) (hn : As.length = n) (hsize : g.locals.size = nL) (hstack : g.stack = As.reverse ++ rest) (hW : 2 * g.monitorRoom + (rest.map fun v => v.category).sum ≤ 8) (hdg : decode cc g.pc = .ok (.invokestatic index, 3)) (hf : cells + mc ≤ R.cells ∧ slots + ms ≤ R.slots) :
    va_Run p l e R s m args below meth c H locs cells slots mc ms g rest (Qc As.toArray) (free) := by
  obtain ⟨⟨hrc, hrs, hfr, hlo, hws, hcw⟩, hcode, hini, hy, hlen, hl, hstt⟩ := cw
  have hK : Back l R p e below s args y 3 8 (PreOf R mc ms Pc) (PostOf Qc mc ms free) := va_backW (hh := hh) (bytes := bytes) (maxL := maxL) (ret := ret) hM hp.1 hrc hrs hfr hlo hws hcw (fun a' U hW => word_at hW (Or.inl (by first | rfl | simp [Cond.onTables, Cond.keeps, Cond.steady])) hini)
  obtain ⟨hx, hb, hml, ho, -⟩ := S
  intro T hT X
  obtain ⟨v, vm₁, ⟨U', l2, c2, s2⟩, hW₁, X', ⟨g', mk, t, L, e1, e2, hq, h1, hL, h2, h3⟩, st⟩ := vx_callSW X hx (hh := hh) (bytes := bytes) (maxL := maxL) (ret := ret) ho hl hstt hini hcode hy hK hg (hsize.trans hml.symm) (argsL := As) (rest := rest) (fun sig h => hn.trans (hlen sig h)) hstack hW (by rw [hb]; exact hdg)
    (fun vm₁ hW₁ => ⟨hf.1, hf.2, hp.2 (T.setVm vm₁) hT hW₁⟩)
  dsimp only [Pt.U, Pt.locs, Pt.cells, Pt.slots] at X' e1 e2 h1 h2 h3 st
  subst h1; subst h2; subst h3
  exact ⟨v, (T.setVm vm₁).calling g' mk As.toArray, t, U', L, hT, X', hL, e1, e2, hq, st⟩
/-- not caught here, past rows that name other classes: it goes on to the caller -/
theorem vx_outP {p : Program} {l : Launch} {e : Env} {R : Room} {s : State} {m : MethodId} {args : Array Value} {below : List Frame} {meth : Method} {c : Code} {H : Heap} {locs : List Loc} {cells slots : Nat} {free : Addr → Prop} {ls : Array Slot} {rest : List Value} {Qc : Array Value → State → Outcome → State → Prop} {XC : String → State → State → Prop}
    {pc : Nat} {own E : String} {ce : Cell} {q : Addr} {mc ms : Nat} (hown : s.vm.findClass own = some m.cls) (hlocks : meth.locks = false)
    (hpass : ∀ z ∈ c.exceptionTable.toList, covers z pc = false ∨ (z.catchType ≠ 0 ∧ ∃ nm : String, (Cond.classLink own z.catchType nm).before args s = true ∧ va_Nc E nm s)) (hcell : H[q]? = some ce) (hv : ce.vm = .none) (hcl : s.vm.findClass E = some ce.cls)
    (hx : ∀ t : State, t.heap = H → s.vm.Alike t.vm → XC E s t) (hf : ∀ z ∈ locs, free z.base) (hc : cells ≤ mc) (hs : slots ≤ ms) :
    vx_W p l e R s m args below meth c H locs cells slots (vx_MQ below Qc XC args s mc ms free) (F0 m pc ls rest) q := by
  intro T hT X
  have hpl : e.platform.magicAccessors = ({} : Platform).magicAccessors := by rw [X.admits.platform]
  obtain ⟨vm', hW', X', st⟩ := X.outThrough hlocks q (g := F0 m pc ls rest) rfl rfl rfl (cell := ce) (by rw [hT]; exact hcell) (by rw [hv]; rfl)
    (by obtain ⟨k9, h9, -⟩ := Vm.findClass_spec hcl; exact ⟨k9, h9⟩) (fun z hz => by
      rcases hpass z hz with h | ⟨hz0, nm, hl1, hn1⟩
      · exact Or.inl h
      · obtain ⟨c6, hc6, hcl6⟩ := Cond.classLink_spec hown hl1 e.platform hpl
        obtain ⟨a8, b8, h1, h2, h3⟩ := hn1
        cases Option.some.inj (h1.symm.trans hcl)
        cases Option.some.inj (h2.symm.trans hc6)
        exact Or.inr ⟨hz0, _, hcl6, h3⟩)
  obtain ⟨g₀, hfr⟩ := X'.frames_eq
  have hcell9 : ((T.setVm vm').setFrames (.throwing q :: below)).heap[q]? = some ce := by
    show T.heap[q]? = some ce
    rw [hT]; exact hcell
  have hend : Ended ((T.setVm vm').setFrames (.throwing q :: below)) below (.threw q) := State.frames_setFrames _ (State.cur_lt_of_frames hfr)
  refine ⟨(T.setVm vm').setFrames (.throwing q :: below), ?_, .threw q, X'.here.running, hend, Or.inr ⟨q, rfl, E, ce, locs, hx _ hT (X'.ends _).1.alike, hcell9, hv, hcl, (X'.ends _).1, (X'.ends _).2.mono hc hs, hf⟩⟩
  rw [X.pushThrowing_eq]
  exact st
/-- a thing of a world lies in the heap -/
theorem vx_lt {D : va_G} {cl : List vw_C} {ws : va_W} {H1 : Heap} (h : va_P D cl ws H1) {k : Nat} {q : Nat × va_E} (hk : ws[k]? = some q) : q.1 < H1.size := (h k q hk).lt
end VXS
/-! NoSuchElementException(String): its call of the class above stands at 13 of its pool (the kit's rows of a throw want 7), so its throw has a row of its own here (it follows the library's for 7) -/
section NSE
abbrev exN : String := "java/util/NoSuchElementException"
abbrev exR : String := "java/lang/RuntimeException"
abbrev exE : String := "java/lang/Exception"
abbrev exTx : String := "no such cell, or nothing of that number is told of it"
abbrev exC : ByteArray := prog_29_method_4_code
def xnA (own : String) (ic : Nat) : List Cond := Bundle.throwableAtoms ++ Bundle.throwableSAtoms ++ (Bundle.passSAtoms exN exR 13 exC ++ Bundle.chainSAtoms exR [exE]) ++
  [.methodLink own ic (Bundle.initS exN), .instantiable exN 6, .castable exN exN, .selects exN Bundle.tFill0 Bundle.tFill0, .selects exN Bundle.tFill Bundle.tFill,
   .lays exN Bundle.tN "cause" "Ljava/lang/Throwable;", .lays exN Bundle.tN "stackTrace" Bundle.steD, .lays exN Bundle.tN "suppressedExceptions" Bundle.listD, .lays exN Bundle.tN "detailMessage" "Ljava/lang/String;",
   .isRef (.static Bundle.tN "UNASSIGNED_STACK" Bundle.steD), .isRef (.static Bundle.tN "SUPPRESSED_SENTINEL" Bundle.listD),
   .fieldLink Bundle.tN 198 Bundle.tN "backtrace" "Ljava/lang/Object;", .lays Bundle.tN Bundle.tN "backtrace" "Ljava/lang/Object;", .lays exN Bundle.tN "backtrace" "Ljava/lang/Object;"]
theorem exC_0 : decode exC 0 = .ok (.aload_n 0, 1) := by decide +kernel
theorem exC_1 : decode exC 1 = .ok (.aload_n 1, 1) := by decide +kernel
theorem exC_2 : decode exC 2 = .ok (.invokespecial 13, 3) := by decide +kernel
theorem exC_5 : decode exC 5 = .ok (.return_, 1) := by decide +kernel
theorem fitN : Bundle.fit exN = true := by decide +kernel
theorem fitR : Bundle.fit exR = true := by decide +kernel
theorem fitE : ∀ n ∈ [exE], Bundle.fit n = true := by decide +kernel
variable {p : Program} {l : Launch} {e : Env} {R : Room} {s : State} {m₀ : MethodId} {args : Array Value} {below : List Frame} {meth : Method} {c : Code} {W9 : State} {cells slots : Nat}
set_option maxHeartbeats 2000000 in
theorem ctorThrow9 (X : Stand p l e R s m₀ args below meth c W9 [] cells slots) (hexec : p.tables.exec = Jvm.exec) (htr : e.platform.stackTraces = false) {own : String} {ic : Nat}
    (hown : s.vm.findClass own = some m₀.cls) (h : ∀ a ∈ xnA own ic, a.before args s = true)
    {a : Addr} {cX : ClassId} {kX : Class} (hfoundX : s.vm.findClass exN = some cX) (hkX : s.vm.classes[cX]? = some kX) (hcell : W9.heap[a]? = some (freshCell cX kX)) (hnew : s.heap.size ≤ a)
    {msg : Value} (hmsg : msg.isRef = true)
    {g : JFrame} (hg : g.method = m₀) (hsize : g.locals.size = c.maxLocals) (hlocked : g.locked = none) (hentered : g.entered = []) {rest : List Value} (hstack : g.stack = msg :: .ref a :: .ref a :: rest)
    (hd6 : decode c.code g.pc = .ok (.invokespecial ic, 3)) (hd9 : decode c.code (g.pc + 3) = .ok (.athrow, 1)) (hout : ∀ x ∈ c.exceptionTable.toList, covers x (g.pc + 3) = false)
    (hRframes : 5 < R.frames) (hRlocals : 2 * g.monitorRoom + ((Value.ref a :: rest).map fun v => v.category).sum + 81 ≤ R.locals) (hlocks : meth.locks = false) :
    ∃ U : State, Steps p.tables e below (W9.setTop g) U ∧ U.status = .running ∧ Ended U below (.threw a) ∧ s.WarmedH U.vm ∧ s.sameButNew ({ U with vm := s.vm } : State) [] cells slots ∧
      ∃ ce, U.heap[a]? = some ce ∧ ce.cls = cX ∧ ce.vm = .none := by
  have hpl : e.platform.magicAccessors = ({} : Platform).magicAccessors := by rw [X.admits.platform]
  have hat : ∀ x, x ∈ xnA own ic → x.holds args s none s [] = true := fun x hx => h x hx
  obtain ⟨T, Z0, L, -, Y⟩ := ThrowableC.of_atoms (args := args) (by rw [X.admits.platform]) (by rw [X.admits.platform]) hpl (fun x hx => h x (by simp [xnA, hx]))
  obtain ⟨Z, M, LZ, LM, hnZ⟩ := Init0T.ofS_atoms (args := args) hpl L Y (fun x hx => h x (by simp [xnA, hx]))
  obtain ⟨P1, L1, hP1m, hP1s⟩ := PassC.ofS_atoms (args := args) (s := s) hpl (X := exN) (Y := exR) (Bundle.fit_spec fitN).1 (Bundle.fit_spec fitR).2 exC_0 exC_1 exC_2 exC_5 (fun x hx => h x (by simp only [xnA, List.mem_append]; exact Or.inl (Or.inr (Or.inl hx))))
  obtain ⟨P2, Ps, hlen, L2, hL, hP2m, hlink2, hlink⟩ := Bundle.chainS (args := args) hpl hnZ [exE] exR fitR fitE (fun x hx => h x (by simp only [xnA, List.mem_append]; exact Or.inl (Or.inr (Or.inr hx))))
  have hfound : s.vm.findClass exN = some P1.m.cls := findClass_of_methodNamed hP1m
  cases Option.some.inj (hfoundX.symm.trans hfound)
  obtain ⟨c1, kX', hc1, hk, hord, -, -, hn6⟩ := Cond.instantiable_spec (hat (.instantiable exN 6) (by simp [xnA]))
  cases Option.some.inj (hc1.symm.trans hfound)
  cases Option.some.inj (hkX.symm.trans hk)
  have hsel : ∀ (t : MethodName) (mt : MethodId), .selects exN t t ∈ xnA own ic → s.methodNamed? t = some mt → (t.cls ≠ "java/lang/invoke/MethodHandle" ∧ t.cls ≠ "java/lang/invoke/VarHandle") → selectMethod e.platform s.vm P1.m.cls mt = .method mt := by
    intro t mt ht hn hc
    obtain ⟨c2, r2, m2, q1, q2, q3, q4, -⟩ := Cond.selects_spec (hat _ ht)
    cases Option.some.inj (q1.symm.trans hfound)
    cases Option.some.inj (q2.symm.trans (State.methodFound?_of_named hn hc))
    cases Option.some.inj (q3.symm.trans hn)
    rw [Launch.admits_selectMethod X.admits]
    exact q4
  obtain ⟨cellS0, hcS0, hiss⟩ := Y.statics
  obtain ⟨u0, hu0⟩ := Cond.staticRefV Y.unassigned L.unassignedStatic L.statics hcS0 hiss (hat (.isRef (.static Bundle.tN "UNASSIGNED_STACK" Bundle.steD)) (by simp [xnA]))
  obtain ⟨sen, hsen⟩ := Cond.staticRefV Y.sentinel L.sentinelStatic L.statics hcS0 hiss (hat (.isRef (.static Bundle.tN "SUPPRESSED_SENTINEL" Bundle.listD)) (by simp [xnA]))
  obtain ⟨ci198, i198, fB, hk198, hg198, ha198, hsB, -, hnB, htB, hffB⟩ := Cond.ownField (t := .object "java/lang/Object") Y.found L.cls (by decide +kernel) (hat (.fieldLink Bundle.tN 198 Bundle.tN "backtrace" "Ljava/lang/Object;") (by simp [xnA])) (hat (.lays Bundle.tN Bundle.tN "backtrace" "Ljava/lang/Object;") (by simp [xnA])) e.platform hpl
  obtain ⟨cellS, hcS', heS, -, hkeep⟩ := X.same.2.2.2.2.2 T.aS cellS0 hcS0
  have hcellS : W9.heap[T.aS]? = some cellS := hcS'
  have hknownS : cellS.vm ≠ .unknown := by
    rw [heS]
    intro hu
    rw [show cellS0.vm = .unknown from hu] at hiss
    cases hiss
  have hneS : T.aS ≠ a := Nat.ne_of_lt (Nat.lt_of_lt_of_le (Array.getElem?_eq_some_iff.mp hcS0).1 hnew)
  obtain ⟨iM, hffM⟩ := Y.msg
  obtain ⟨tyC, dC, hdC, hdnC⟩ := Cond.laysAt hfound hk Y.cause (hat (.lays exN Bundle.tN "cause" "Ljava/lang/Throwable;") (by simp [xnA]))
  obtain ⟨tyS, dS, hdS, hdnS⟩ := Cond.laysAt hfound hk Y.stack (hat (.lays exN Bundle.tN "stackTrace" Bundle.steD) (by simp [xnA]))
  obtain ⟨tyP, dP, hdP, hdnP⟩ := Cond.laysAt hfound hk Y.supp (hat (.lays exN Bundle.tN "suppressedExceptions" Bundle.listD) (by simp [xnA]))
  obtain ⟨tyM, dM, hdM, hdnM⟩ := Cond.laysAt hfound hk hffM (hat (.lays exN Bundle.tN "detailMessage" "Ljava/lang/String;") (by simp [xnA]))
  obtain ⟨tyB, dB, hdB, hdnB⟩ := Cond.laysAt hfound hk hffB (hat (.lays exN Bundle.tN "backtrace" "Ljava/lang/Object;") (by simp [xnA]))
  have bC := Cond.laysApart hdB hdC hdnB hdnC (by rw [hnB, Y.causeName]; decide)
  have bS := Cond.laysApart hdB hdS hdnB hdnS (by rw [hnB, Y.stackName]; decide)
  have bP := Cond.laysApart hdB hdP hdnB hdnP (by rw [hnB, Y.suppName]; decide)
  have hskip : SkipFacts T e.platform s (fun u => u) u0 ((preparedCellV T.toThrowableT (freshCell P1.m.cls kX) a u0 sen).withEntry W9.cur) :=
    ⟨{ ci198 := ci198, i198 := i198, fBack := fB }, ⟨hk198, hg198, ha198, hsB⟩, by
      have := fresh_default (c := P1.m.cls) tyB
      rw [htB] at this
      simpa [preparedCellV, Cell.setSlot, Cell.withEntry, Array.getElem?_setIfInBounds, bC, bS, bP, bC.symm, bS.symm, bP.symm, defaultValue] using this, fun _ _ => rfl⟩
  obtain ⟨tm, methC, cdC, kC, vm₁, hnC, -, -, -, -, -, -, -, hW₁, st1⟩ := Steps.initColdS (tb := p.tables) (e := e) (below := below) (s := s) (U := W9) X.here hexec X.warmed hpl hown (t := Bundle.initS exN) rfl rfl (Bundle.fit_spec fitN).2
    (hat (.methodLink own ic (Bundle.initS exN)) (by simp [xnA])) (h (.instanceMethod (Bundle.initS exN)) (by simp [xnA, Bundle.passSAtoms])) (bytes := exC) (maxL := 2) (h (.code (Bundle.initS exN) exC 2 none) (by simp [xnA, Bundle.passSAtoms]))
    (f := g) hg (a := a) (msg := msg) (rest := .ref a :: rest) hstack hd6
  cases Option.some.inj (hnC.symm.trans hP1m)
  have X₁ := X.noted hW₁
  have hlk : P1.sup = firstOf (Z.m T.toThrowableT) ((P2 :: Ps).map (·.toPassT)) := Option.some.inj (hP1s.symm.trans hP2m)
  obtain ⟨vm₂, X₂, st2⟩ := X₁.ctorMessageOffV hexec (g := { g with stack := .ref a :: rest }) hg hsize T L Z LZ M LM (P1 :: P2 :: Ps)
    (fun P hP => by
      rcases List.mem_cons.mp hP with rfl | hP
      · exact L1
      · rcases List.mem_cons.mp hP with rfl | hP
        · exact L2
        · exact hL P hP) ⟨hlk, hlink2, hlink⟩ (u0 := u0) (sen := sen) (self := a) hmsg (cell := freshCell P1.m.cls kX) (cellS := cellS)
    hcell (fun _ => by simp) (by simp) rfl rfl (hsel _ _ (by simp [xnA]) Y.fill0 (by decide)) (hsel _ _ (by simp [xnA]) Y.fill (by decide)) hcellS hneS hknownS (by rw [hkeep _ (fun q => nomatch q)]; exact hu0) (by rw [hkeep _ (fun q => nomatch q)]; exact hsen)
    (Takes.of_laid hk hord tyC (by rw [Y.causeType]; rfl)) (Takes.of_laid hk hord tyS (by rw [Y.stackType]; exact fits_refV_array _ u0)) (Takes.of_laid hk hord tyP (by rw [Y.suppType]; exact fits_refV_object _ sen))
    (Takes.of_laid hk hord tyM (by rw [Y.msgType]; exact fits_refV_object _ ⟨msg, hmsg⟩)) Y.objLocals hskip htr [] hd6
    (by simp only [List.length_cons, hlen, List.length_nil]; omega) (by simp only [List.length_cons, hlen, List.length_nil]; exact hRlocals)
  obtain ⟨hwalk, hrun, hended, hWU, hsame⟩ := X₂.athrowLeaves hexec (g := { g with stack := .ref a :: rest, pc := g.pc + 3 }) hg hlocked hentered hout (a := a) (rest := rest) rfl hd9
  have hlt : a < ((W9.setVm vm₁).setVm vm₂).heap.size := (Array.getElem?_eq_some_iff.mp hcell).1
  have hU := heapAt_setCell_self (s := (W9.setVm vm₁).setVm vm₂) (plainBareV T.toThrowableT (freshCell P1.m.cls kX) a u0 sen msg) hlt
  refine ⟨_, st1 _ (fun acts => ?_), hrun, hended, hWU, hsame.weaken (fun y hy hlt' => ?_) (Nat.le_refl _) (Nat.le_refl _), _, hU, rfl, rfl⟩
  · rw [doInvoke_state]
    exact st2 _ hwalk
  · exfalso
    have hb : y.base = a := by
      simp only [List.nil_append, List.mem_cons, List.not_mem_nil, or_false] at hy
      rcases hy with rfl | rfl | rfl | rfl | rfl <;> rfl
    rw [hb] at hlt'
    exact Nat.not_lt.mpr hnew hlt'
end NSE
section NSF
variable {p : Program} {l : Launch} {e : Env} {R : Room} {s : State} {m : MethodId} {args : Array Value} {below : List Frame} {meth : Method} {c : Code} {H : Heap} {locs : List Loc} {cells slots : Nat} {Q : State → Prop}
variable {mc ms : Nat} {free : Addr → Prop} {A0 A1 : Nat → Prop} {H0 : Heap} {a : Array Value} {ls : Array Slot} {st0 rest : List Value}
variable {Qc : Array Value → State → Outcome → State → Prop} {XC : String → State → State → Prop}
/-- 'throw new NoSuchElementException("text")' -/
theorem vx_throw9 {cc : ByteArray} {pc : Nat} (hexec : p.tables.exec = Jvm.exec) (hb : c.code = cc) (hl : l.stackTraces = false) {own : String} {ik is ic mc ms sa : Nat} {A : Nat → Prop}
    (hown : s.vm.findClass own = some m.cls) 
    (hk : (Cond.classLink own ik exN).before args s = true) (hini : (Cond.initialized exN).before args s = true) (hstr : vk_R own is exTx sa s) (hat : ∀ w ∈ (xnA own ic).filter vx_no, w.before args s = true)
    (hgood : ∀ w ∈ Cond.classLink own ik exN :: Cond.initialized exN :: (xnA own ic).filter vx_no, vx_ot w = true)
    (hU : vx_Zq Bundle.tN "UNASSIGNED_STACK" Bundle.steD A s s.heap) (hN : vx_Zq Bundle.tN "SUPPRESSED_SENTINEL" Bundle.listD A s s.heap) (hS : va_S A s.heap H locs) (hsize : ls.size = c.maxLocals)
    (d0 : decode cc pc = .ok (.new ik, 3)) (d3 : decode cc (pc + 3) = .ok (.dup, 1)) (d4 : decode cc (pc + 4) = .ok (.ldc is, 2)) (d6 : decode cc (pc + 6) = .ok (.invokespecial ic, 3)) (d9 : decode cc (pc + 9) = .ok (.athrow, 1))
    (hout : ∀ x ∈ c.exceptionTable.toList, covers x (pc + 9) = false)
    (hRframes : 5 < R.frames) (hRlocals : (rest.map fun v => v.category).sum + 82 ≤ R.locals) (hRcells : cells + 1 ≤ R.cells) (hRslots : slots + 6 ≤ R.slots) (hlocks : meth.locks = false)
    (hx : ∀ t : State, s.vm.Alike t.vm → t.heap.size = H.size + 1 → (∀ q : Nat, q < H.size → t.heap[q]? = H[q]?) → (∃ ce : Cell, t.heap[H.size]? = some ce ∧ ce.vm = .none ∧ s.vm.findClass exN = some ce.cls) → XC exN s t)
    (hf : ∀ z ∈ locs, free z.base) (hc : cells + 1 ≤ mc) (hs : slots + 6 ≤ ms) :
    W p l e R s m args below meth c H locs cells slots (vx_MQ below Qc XC args s mc ms free) (F0 m pc ls rest) := by
  intro T hT X
  have htr : e.platform.stackTraces = false := (show e.platform.stackTraces = l.stackTraces by rw [X.admits.platform]).trans hl
  have Y := vx_rebase X (R' := { frames := R.frames, locals := R.locals, cells := 1, slots := 6 }) (Nat.le_refl _) (Nat.le_refl _) hRcells hRslots
  obtain ⟨s', hA⟩ : ∃ z, z = (T.setVm s.vm).setFrames (.invoking m args :: below) := ⟨_, rfl⟩
  rw [← hA] at Y
  have hvm : s'.vm = s.vm := by rw [hA]; rfl
  have hhp : s'.heap = H := by rw [hA]; exact hT
  have hW0 : s.WarmedH s'.vm := by rw [hvm]; exact State.WarmedH.refl s
  have hat' : ∀ w ∈ (xnA own ic).filter vx_no, w.before args s' = true := fun w hw => vx_ot_at hW0 hvm.symm (hgood w (List.mem_cons_of_mem _ (List.mem_cons_of_mem _ hw))) (hat w hw)
  have hk' : (Cond.classLink own ik exN).before args s' = true := vx_ot_at hW0 hvm.symm (hgood _ List.mem_cons_self) hk
  have hini' : (Cond.initialized exN).before args s' = true := vx_ot_at hW0 hvm.symm (hgood _ (List.mem_cons_of_mem _ List.mem_cons_self)) hini
  have hU' : vx_Zq Bundle.tN "UNASSIGNED_STACK" Bundle.steD A s' s'.heap := by rw [hhp]; exact vx_Zq.moved hW0.alike (hU.kept hS.2.1)
  have hN' : vx_Zq Bundle.tN "SUPPRESSED_SENTINEL" Bundle.listD A s' s'.heap := by rw [hhp]; exact vx_Zq.moved hW0.alike (hN.kept hS.2.1)
  have h : ∀ w ∈ xnA own ic, w.before args s' = true := vx_own hat' (vx_isRefq hU'.1) (vx_isRefq hN'.1) hU'.2.word hN'.2.word
  have hown' : s'.vm.findClass own = some m.cls := by rw [hvm]; exact hown
  have hins : (Cond.instantiable exN 6).before args s' = true := h _ (by simp [xnA])
  obtain ⟨vm₁, cX, kX, hfX, hkX, -, -, X₁, st1⟩ := Y.newCold hexec (own := own) (C := exN) (index := ik) (n := 6) hown' hk' hins hini'
    (g := F0 m pc ls rest) rfl (by rw [hb]; exact d0) (Nat.le_refl _) (Nat.le_refl _)
  generalize hT1 : (T.setVm vm₁).pushCell { cls := cX, slots := kX.instanceTypes.map defaultValue, vm := .none } = T1 at X₁ st1
  have hcat : (Value.ref T.heap.size).category = 1 := rfl
  have hcellA : T1.heap[T.heap.size]? = some (freshCell cX kX) := by rw [← hT1]; exact State.heap_pushCell_size _ _
  have d3' : decode c.code (pc + 3) = .ok (.dup, 1) := by rw [hb]; exact d3
  have d4' : decode c.code (pc + 4) = .ok (.ldc is, 2) := by rw [hb]; exact d4
  have hstr' : vk_R own is exTx sa s' := vk_R.warm hW0 hstr
  obtain ⟨U, hsteps, hrun, hend, hW, hsame, ce, hce, hO1, hO2⟩ := ctorThrow9 X₁ hexec htr (own := own) (ic := ic) hown' h hfX hkX hcellA (by rw [hhp, hT]; exact Nat.le_refl _) (msg := .ref sa) rfl
    (g := { method := m, pc := pc + 6, locals := ls, stack := .ref sa :: .ref T.heap.size :: .ref T.heap.size :: rest, locked := none }) rfl hsize rfl rfl (rest := rest) rfl
    (by rw [hb]; exact d6) (by rw [hb]; exact d9) hout hRframes (by simp only [List.map_cons, List.sum_cons, hcat]; omega) hlocks
  have f3 : U.heap.size ≤ s'.heap.size + (0 + 1) := hsame.2.2.1
  obtain ⟨f1, f2⟩ := vx_frame hsame
  rw [hhp] at f1 f2 f3
  have hWs : s.WarmedH U.vm := State.WarmedH.trans hW0 hW
  have hcl : s.vm.findClass exN = some ce.cls := by
    rw [hO1, ← hvm]
    exact hfX
  have f4 : U.heap.size = H.size + 1 := by
    have h9 : T.heap.size < U.heap.size := (Array.getElem?_eq_some_iff.mp hce).1
    rw [hT] at h9
    omega
  have hall : s.sameButNew ({ U with vm := s.vm } : State) locs mc ms := by
    subst hA
    obtain ⟨e1, e2⟩ := hsame
    rw [State.setFrames_setFrames] at e1
    have h2 : (T.setVm s.vm).sameButNew ({ U with vm := s.vm } : State) [] (0 + 1) (0 + 6) := ⟨e1, e2⟩
    have h3 := X.same.trans h2
    rw [List.append_nil] at h3
    exact h3.mono hc hs
  refine ⟨U, ?_, .threw T.heap.size, hrun, hend, Or.inr ⟨T.heap.size, rfl, exN, ce, locs, hx U hWs.alike f4 (fun q hq => f2 q hq (fun z hz => nomatch hz)) ⟨ce, by rw [← hT]; exact hce, hO2, hcl⟩, hce, hO2, hcl, hWs, hall, hf⟩⟩
  refine st1 _ ?_
  show Steps p.tables e below (T1.setTop { method := m, pc := pc + 3, locals := ls, stack := .ref T.heap.size :: rest, locked := none }) _
  jvm_step X₁.here [X₁.here.top, hexec, d3', Value.category]
  exact X₁.ldcString hexec (own := own) (text := exTx) (index := is) (a := sa) hown' hstr'.1 hstr'.2
    (g := { method := m, pc := pc + 4, locals := ls, stack := .ref T.heap.size :: .ref T.heap.size :: rest, locked := none }) rfl d4' _ hsteps
end NSF
