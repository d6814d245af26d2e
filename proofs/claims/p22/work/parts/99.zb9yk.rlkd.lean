/-! THE REFERENCE'S line, kind by kind (made by glr2.py) -/
def BDr (B : Nat → Int32) (n : Nat) (M M' : Mem) (v : Option Value) (ls : List Lnq) (k : Int32) (r : PBd) : Prop := match r with
  | .inl f => FLq M M' v f
  | .inr q => v = some (.int 1) ∧ FB fQl wQl M M' ∧ R0 B n M' q.1 ∧ LQ M' ls ∧ ER M' (112 + ls.length) k q.2.1 q.2.2.1 q.2.2.2 ∧ (rN M' 644 (112 + ls.length)).toInt = (q.1.2.2.length : Int)
section LQK
variable {e n kk : Nat} {M M1 M' : Mem} {v : Option Value} {B : Nat → Int32} {s : Sg} {ls : List Lnq}
theorem BDr.pre {k : Int32} {r : PBd} (h : FB fQl wQl M M1) (h2 : BDr B n M1 M' v ls k r) : BDr B n M M' v ls k r := by
  cases r with
  | inl f => exact FLq.pre h h2
  | inr q => exact ⟨h2.1, h.trans h2.2.1, h2.2.2⟩
theorem fin_r {k m nu : Int32} {fr : Nat} (h : R0 B n M s) (hL : LQ M ls) (hlt : ls.length < 16) (hE : ER M (112 + ls.length) k m nu fr) : BDr B n M (wI M 644 (112 + ls.length) (zI M 633 19)) (some (.int 1)) ls k (.inr (s, m, nu, fr)) := by
  have F1 : FB [] [644] M (wI M 644 (112 + ls.length) (zI M 633 19)) := FB.wI (by simp)
  refine ⟨rfl, F1.more (fun _ hq => by cases hq) (by decide), h.frm h.1.ki F1 (by decide) (by decide), hL.wr (by decide), hE.frm F1 (by decide), ?_⟩
  rw [rN_wI_eq (by rw [(r_len h.1).2.2.2.2]; omega)]
  exact h.2.2.2.2.2.2.2.1.1
theorem st_r {k m nu : Int32} (h : R0 B n M s) (hL : LQ M ls) (hlt : ls.length < 16) (g0 : rN M 640 (112 + ls.length) = k) (g1 : rN M 641 (112 + ls.length) = m) (g2 : zI M 633 32 = nu) : FB fQl wQl M (wI (wI M 642 (112 + ls.length) (zI M 633 32)) 643 (112 + ls.length) (zI M 633 19)) ∧ R0 B n (wI (wI M 642 (112 + ls.length) (zI M 633 32)) 643 (112 + ls.length) (zI M 633 19)) s ∧ LQ (wI (wI M 642 (112 + ls.length) (zI M 633 32)) 643 (112 + ls.length) (zI M 633 19)) ls ∧ ER (wI (wI M 642 (112 + ls.length) (zI M 633 32)) 643 (112 + ls.length) (zI M 633 19)) (112 + ls.length) k m nu s.2.2.length := by
  have F1 : FB [] [642, 643] M (wI (wI M 642 (112 + ls.length) (zI M 633 32)) 643 (112 + ls.length) (zI M 633 19)) := (FB.wI (by simp)).trans (FB.wI (by simp))
  refine ⟨F1.more (fun _ hq => by cases hq) (by decide), h.frm h.1.ki.ki F1 (by decide) (by decide), ?_, ?_, ?_, ?_, ?_⟩
  · exact LQ.wr (LQ.wr hL (by decide)) (by decide)
  · rw [F1.rn (by decide)]; exact g0
  · rw [F1.rn (by decide)]; exact g1
  · rw [rN_wI_ne (fun q => absurd q.1 (by decide)), rN_wI_eq (by rw [(r_len h.1).2.2.1]; omega)]
    exact g2
  · rw [rN_wI_eq (by rw [(r_len h.1.ki).2.2.2.1]; omega)]
    exact h.2.2.2.2.2.2.2.1.1
theorem clI {i : Int32} {p : Nat} (hi : i.toInt = (p : Int)) : i.toNatClampNeg = p := by
  show i.toInt.toNat = p
  omega
theorem cq0_ok {i m nu : Int32} {c3 : Option Value} (hn2 : n ≤ 440) (hk : 33 ≤ kk) (h : R0 B n M s) (h40 : s.2.1 ≤ 40) (hL : LQ M ls) (hlt : ls.length < 16) (hi : i.toInt = ((112 + ls.length : Nat) : Int)) (g0 : rN M 640 (112 + ls.length) = 0) (g1 : rN M 641 (112 + ls.length) = m) (g2 : zI M 633 32 = nu) (H : Ev none e 170 75 [some (.ref 633), some (.int i), some (.int 0), c3] [.int 1] M v M' 0 0) : BDr B n M M' v ls 0 (cnR B ((prS B kk).1 1) s 0 m nu) := by
  obtain ⟨S1, S2, S3, S4⟩ := st_r h hL hlt g0 g1 g2
  have hI := clI hi
  have e19 : zI (wI (wI M 642 (112 + ls.length) (zI M 633 32)) 643 (112 + ls.length) (zI M 633 19)) 633 19 = zI M 633 19 := by rw [fI_wI, fI_wI]
  unfold cnR cndR
  rw [if_neg (by decide)]
  rcases rlq0_75 h.1 H with ⟨q, _⟩ | ⟨_, g, _, _, _, rfl, rfl⟩ | ⟨_, g, _, _, e1, v1, M1, he, H1, H⟩
  · exact absurd q (by decide)
  · rw [hI] at g ⊢
    rcases S2.2.2.2.1.word (u := ifW) (C := 26982) S2.2.2.2.2.2.1 (by decide) (by decide) with ⟨q1, _⟩ | ⟨_, q2⟩
    · rw [g] at q1
      exact absurd q1 (by decide)
    · rw [if_neg (fun q => q2 q.2)]
      have R := fin_r S2 S3 hlt S4
      rw [e19] at R
      exact R.pre S1
  · rw [hI] at g H1
    rcases S2.2.2.2.1.word (u := ifW) (C := 26982) S2.2.2.2.2.2.1 (by decide) (by decide) with ⟨_, q2⟩ | ⟨q1, _⟩
    · rw [if_pos ⟨by decide, q2⟩]
      have q3 := ix_wd (B := B) (tk := hdT s.1) (ws := [ifW]) (by decide) (by decide) (by
        rw [q2]
        decide)
      obtain ⟨rfl, f1, r1⟩ := S2.next hn2 (by rw [q3]; decide) (by rw [q3]; decide) H1
      obtain ⟨e2, v2, M2, he2, H2, H⟩ := rlq0_140 r1.1 H
      have R := rcond_ok hn2 hk r1 h40 H2
      have f1q : FB fQl wQl M M1 := S1.trans f1.ql
      cases hr : ((prS B kk).1 1) (s.1.tail, s.2.1, s.2.2) with
      | inr f =>
        rw [hr] at R
        obtain ⟨rfl, f2⟩ := R
        rcases rlq0_150 f2.1 H with ⟨_, rfl, rfl⟩ | ⟨q, _⟩
        · exact FLq.pre f1q (FLT.ql ⟨rfl, f2⟩)
        · exact absurd rfl q
      | inl s2 =>
        rw [hr] at R
        obtain ⟨rfl, f2, r2⟩ := R
        rcases rlq0_150 r2.1 H with ⟨q, _⟩ | ⟨_, _, rfl, rfl⟩
        · exact absurd q (by decide)
        · rw [hI]
          exact (fin_r r2 ((S3.frm f1 (by decide)).frm f2 (by decide)) hlt ((S4.frm f1 (by decide)).frm f2 (by decide))).pre (f1q.trans f2.ql)
    · exact absurd q1 g
theorem nq0_ok {i m : Int32} {e1 : Nat} {v1 c3 : Option Value} (hn2 : n ≤ 440) (hk : 33 ≤ kk) (h : R0 B n M s) (h40 : s.2.1 ≤ 40) (hL : LQ M ls) (hlt : ls.length < 16) (hi : i.toInt = ((112 + ls.length : Nat) : Int)) (g0 : rN M 640 (112 + ls.length) = 0) (g1 : rN M 641 (112 + ls.length) = m) (H1 : Ev none e1 167 0 [some (.ref 633), some (.int 0), some (.int 999)] [] M v1 M1 0 0) (H : Ev none e 170 75 [some (.ref 633), some (.int i), some (.int 0), c3] (v1.toList ++ []) M1 v M' 0 0) : BDr B n M M' v ls 0 (nmR B ((prS B kk).1 1) s 0 m) := by
  have T := tks_ok hn2 h H1
  unfold nmR
  rw [show (if (0 : Int32) = 2 then (1 : Int32) else 0) = 0 from by decide, show mostS 0 = 999 from by unfold mostS; decide]
  cases ht : tkR s 0 999 with
  | inl f =>
    rw [ht] at T
    obtain ⟨rfl, f1⟩ := T
    rcases rlq0_75 f1.1 H with ⟨_, rfl, rfl⟩ | ⟨q, _⟩ | ⟨q, _⟩
    · exact FLT.ql ⟨rfl, f1⟩
    · exact absurd rfl q
    · exact absurd rfl q
  | inr nu =>
    rw [ht] at T
    obtain ⟨rfl, f1, r1, t1⟩ := T
    exact (cq0_ok hn2 hk r1 h40 (hL.frm f1 (by decide)) hlt hi (by rw [f1.rn (by decide)]; exact g0) (by rw [f1.rn (by decide)]; exact g1) t1 H).pre (f1.more (fun _ hq => hq) (fun q hq => List.mem_append_right _ hq))
theorem lq0_ok {i : Int32} (hn2 : n ≤ 440) (hk : 33 ≤ kk) (h : R0 B n M s) (h40 : s.2.1 ≤ 40) (hL : LQ M ls) (hlt : ls.length < 16) (hi : i.toInt = ((112 + ls.length : Nat) : Int)) (g0 : rN M 640 (112 + ls.length) = 0) (g1 : rN M 641 (112 + ls.length) = 0) (g2 : rN M 642 (112 + ls.length) = 0) (H : Ev none e 170 0 [some (.ref 633), some (.int i), some (.int 0), none] [] M v M' 0 0) : BDr B n M M' v ls 0 (bdR B ((prS B kk).1 1) s 0) := by
  unfold bdR
  rw [if_neg (by decide), if_neg (by decide)]
  obtain ⟨e1, v1, M1, he, H1, H⟩ := rlq0_0 h.1 H
  exact nq0_ok hn2 hk h h40 hL hlt hi g0 g1 H1 H
theorem cq1_ok {i m nu : Int32} {c3 : Option Value} (hn2 : n ≤ 440) (hk : 33 ≤ kk) (h : R0 B n M s) (h40 : s.2.1 ≤ 40) (hL : LQ M ls) (hlt : ls.length < 16) (hi : i.toInt = ((112 + ls.length : Nat) : Int)) (g0 : rN M 640 (112 + ls.length) = 1) (g1 : rN M 641 (112 + ls.length) = m) (g2 : zI M 633 32 = nu) (H : Ev none e 170 75 [some (.ref 633), some (.int i), some (.int 1), c3] [.int 1] M v M' 0 0) : BDr B n M M' v ls 1 (cnR B ((prS B kk).1 1) s 1 m nu) := by
  obtain ⟨S1, S2, S3, S4⟩ := st_r h hL hlt g0 g1 g2
  have hI := clI hi
  have e19 : zI (wI (wI M 642 (112 + ls.length) (zI M 633 32)) 643 (112 + ls.length) (zI M 633 19)) 633 19 = zI M 633 19 := by rw [fI_wI, fI_wI]
  unfold cnR cndR
  rw [if_neg (by decide)]
  rcases rlq1_75 h.1 H with ⟨q, _⟩ | ⟨_, g, _, _, _, rfl, rfl⟩ | ⟨_, g, _, _, e1, v1, M1, he, H1, H⟩
  · exact absurd q (by decide)
  · rw [hI] at g ⊢
    rcases S2.2.2.2.1.word (u := ifW) (C := 26982) S2.2.2.2.2.2.1 (by decide) (by decide) with ⟨q1, _⟩ | ⟨_, q2⟩
    · rw [g] at q1
      exact absurd q1 (by decide)
    · rw [if_neg (fun q => q2 q.2)]
      have R := fin_r S2 S3 hlt S4
      rw [e19] at R
      exact R.pre S1
  · rw [hI] at g H1
    rcases S2.2.2.2.1.word (u := ifW) (C := 26982) S2.2.2.2.2.2.1 (by decide) (by decide) with ⟨_, q2⟩ | ⟨q1, _⟩
    · rw [if_pos ⟨by decide, q2⟩]
      have q3 := ix_wd (B := B) (tk := hdT s.1) (ws := [ifW]) (by decide) (by decide) (by
        rw [q2]
        decide)
      obtain ⟨rfl, f1, r1⟩ := S2.next hn2 (by rw [q3]; decide) (by rw [q3]; decide) H1
      obtain ⟨e2, v2, M2, he2, H2, H⟩ := rlq1_140 r1.1 H
      have R := rcond_ok hn2 hk r1 h40 H2
      have f1q : FB fQl wQl M M1 := S1.trans f1.ql
      cases hr : ((prS B kk).1 1) (s.1.tail, s.2.1, s.2.2) with
      | inr f =>
        rw [hr] at R
        obtain ⟨rfl, f2⟩ := R
        rcases rlq1_150 f2.1 H with ⟨_, rfl, rfl⟩ | ⟨q, _⟩
        · exact FLq.pre f1q (FLT.ql ⟨rfl, f2⟩)
        · exact absurd rfl q
      | inl s2 =>
        rw [hr] at R
        obtain ⟨rfl, f2, r2⟩ := R
        rcases rlq1_150 r2.1 H with ⟨q, _⟩ | ⟨_, _, rfl, rfl⟩
        · exact absurd q (by decide)
        · rw [hI]
          exact (fin_r r2 ((S3.frm f1 (by decide)).frm f2 (by decide)) hlt ((S4.frm f1 (by decide)).frm f2 (by decide))).pre (f1q.trans f2.ql)
    · exact absurd q1 g
theorem nq1_ok {i m : Int32} {e1 : Nat} {v1 c3 : Option Value} (hn2 : n ≤ 440) (hk : 33 ≤ kk) (h : R0 B n M s) (h40 : s.2.1 ≤ 40) (hL : LQ M ls) (hlt : ls.length < 16) (hi : i.toInt = ((112 + ls.length : Nat) : Int)) (g0 : rN M 640 (112 + ls.length) = 1) (g1 : rN M 641 (112 + ls.length) = m) (H1 : Ev none e1 167 0 [some (.ref 633), some (.int 0), some (.int 999)] [] M v1 M1 0 0) (H : Ev none e 170 75 [some (.ref 633), some (.int i), some (.int 1), c3] (v1.toList ++ []) M1 v M' 0 0) : BDr B n M M' v ls 1 (nmR B ((prS B kk).1 1) s 1 m) := by
  have T := tks_ok hn2 h H1
  unfold nmR
  rw [show (if (1 : Int32) = 2 then (1 : Int32) else 0) = 0 from by decide, show mostS 1 = 999 from by unfold mostS; decide]
  cases ht : tkR s 0 999 with
  | inl f =>
    rw [ht] at T
    obtain ⟨rfl, f1⟩ := T
    rcases rlq1_75 f1.1 H with ⟨_, rfl, rfl⟩ | ⟨q, _⟩ | ⟨q, _⟩
    · exact FLT.ql ⟨rfl, f1⟩
    · exact absurd rfl q
    · exact absurd rfl q
  | inr nu =>
    rw [ht] at T
    obtain ⟨rfl, f1, r1, t1⟩ := T
    exact (cq1_ok hn2 hk r1 h40 (hL.frm f1 (by decide)) hlt hi (by rw [f1.rn (by decide)]; exact g0) (by rw [f1.rn (by decide)]; exact g1) t1 H).pre (f1.more (fun _ hq => hq) (fun q hq => List.mem_append_right _ hq))
theorem lq1_ok {i : Int32} (hn2 : n ≤ 440) (hk : 33 ≤ kk) (h : R0 B n M s) (h40 : s.2.1 ≤ 40) (hL : LQ M ls) (hlt : ls.length < 16) (hi : i.toInt = ((112 + ls.length : Nat) : Int)) (g0 : rN M 640 (112 + ls.length) = 1) (g1 : rN M 641 (112 + ls.length) = 0) (g2 : rN M 642 (112 + ls.length) = 0) (H : Ev none e 170 0 [some (.ref 633), some (.int i), some (.int 1), none] [] M v M' 0 0) : BDr B n M M' v ls 1 (bdR B ((prS B kk).1 1) s 1) := by
  unfold bdR
  rw [if_neg (by decide), if_neg (by decide)]
  obtain ⟨e1, v1, M1, he, H1, H⟩ := rlq1_0 h.1 H
  exact nq1_ok hn2 hk h h40 hL hlt hi g0 g1 H1 H
theorem cq2_ok {i m nu : Int32} {c3 : Option Value} (hn2 : n ≤ 440) (hk : 33 ≤ kk) (h : R0 B n M s) (h40 : s.2.1 ≤ 40) (hL : LQ M ls) (hlt : ls.length < 16) (hi : i.toInt = ((112 + ls.length : Nat) : Int)) (g0 : rN M 640 (112 + ls.length) = 2) (g1 : rN M 641 (112 + ls.length) = m) (g2 : zI M 633 32 = nu) (H : Ev none e 170 75 [some (.ref 633), some (.int i), some (.int 2), c3] [.int 1] M v M' 0 0) : BDr B n M M' v ls 2 (cnR B ((prS B kk).1 1) s 2 m nu) := by
  obtain ⟨S1, S2, S3, S4⟩ := st_r h hL hlt g0 g1 g2
  have hI := clI hi
  have e19 : zI (wI (wI M 642 (112 + ls.length) (zI M 633 32)) 643 (112 + ls.length) (zI M 633 19)) 633 19 = zI M 633 19 := by rw [fI_wI, fI_wI]
  unfold cnR cndR
  rw [if_neg (by decide)]
  rw [if_neg (fun q => absurd q.1 (by decide))]
  rcases rlq2_75 h.1 H with ⟨q, _⟩ | ⟨_, _, _, _, rfl, rfl⟩
  · exact absurd q (by decide)
  · rw [hI]
    have R := fin_r S2 S3 hlt S4
    rw [e19] at R
    exact R.pre S1
theorem nq2_ok {i m : Int32} {e1 : Nat} {v1 c3 : Option Value} (hn2 : n ≤ 440) (hk : 33 ≤ kk) (h : R0 B n M s) (h40 : s.2.1 ≤ 40) (hL : LQ M ls) (hlt : ls.length < 16) (hi : i.toInt = ((112 + ls.length : Nat) : Int)) (g0 : rN M 640 (112 + ls.length) = 2) (g1 : rN M 641 (112 + ls.length) = m) (H1 : Ev none e1 167 0 [some (.ref 633), some (.int 1), some (.int 999)] [] M v1 M1 0 0) (H : Ev none e 170 75 [some (.ref 633), some (.int i), some (.int 2), c3] (v1.toList ++ []) M1 v M' 0 0) : BDr B n M M' v ls 2 (nmR B ((prS B kk).1 1) s 2 m) := by
  have T := tks_ok hn2 h H1
  unfold nmR
  rw [show (if (2 : Int32) = 2 then (1 : Int32) else 0) = 1 from by decide, show mostS 2 = 999 from by unfold mostS; decide]
  cases ht : tkR s 1 999 with
  | inl f =>
    rw [ht] at T
    obtain ⟨rfl, f1⟩ := T
    rcases rlq2_75 f1.1 H with ⟨_, rfl, rfl⟩ | ⟨q, _⟩
    · exact FLT.ql ⟨rfl, f1⟩
    · exact absurd rfl q
  | inr nu =>
    rw [ht] at T
    obtain ⟨rfl, f1, r1, t1⟩ := T
    exact (cq2_ok hn2 hk r1 h40 (hL.frm f1 (by decide)) hlt hi (by rw [f1.rn (by decide)]; exact g0) (by rw [f1.rn (by decide)]; exact g1) t1 H).pre (f1.more (fun _ hq => hq) (fun q hq => List.mem_append_right _ hq))
theorem lq2_ok {i : Int32} (hn2 : n ≤ 440) (hk : 33 ≤ kk) (h : R0 B n M s) (h40 : s.2.1 ≤ 40) (hL : LQ M ls) (hlt : ls.length < 16) (hi : i.toInt = ((112 + ls.length : Nat) : Int)) (g0 : rN M 640 (112 + ls.length) = 2) (g1 : rN M 641 (112 + ls.length) = 0) (g2 : rN M 642 (112 + ls.length) = 0) (H : Ev none e 170 0 [some (.ref 633), some (.int i), some (.int 2), none] [] M v M' 0 0) : BDr B n M M' v ls 2 (bdR B ((prS B kk).1 1) s 2) := by
  unfold bdR
  rw [if_neg (by decide), if_neg (by decide)]
  obtain ⟨e1, v1, M1, he, H1, H⟩ := rlq2_0 h.1 H
  exact nq2_ok hn2 hk h h40 hL hlt hi g0 g1 H1 H
theorem cq3_ok {i m nu : Int32} {c3 : Option Value} (hn2 : n ≤ 440) (hk : 33 ≤ kk) (h : R0 B n M s) (h40 : s.2.1 ≤ 40) (hL : LQ M ls) (hlt : ls.length < 16) (hi : i.toInt = ((112 + ls.length : Nat) : Int)) (g0 : rN M 640 (112 + ls.length) = 3) (g1 : rN M 641 (112 + ls.length) = m) (g2 : zI M 633 32 = nu) (H : Ev none e 170 75 [some (.ref 633), some (.int i), some (.int 3), c3] [.int 1] M v M' 0 0) : BDr B n M M' v ls 3 (cnR B ((prS B kk).1 1) s 3 m nu) := by
  obtain ⟨S1, S2, S3, S4⟩ := st_r h hL hlt g0 g1 g2
  have hI := clI hi
  have e19 : zI (wI (wI M 642 (112 + ls.length) (zI M 633 32)) 643 (112 + ls.length) (zI M 633 19)) 633 19 = zI M 633 19 := by rw [fI_wI, fI_wI]
  unfold cnR cndR
  rw [if_neg (by decide)]
  rw [if_neg (fun q => absurd q.1 (by decide))]
  rcases rlq3_75 h.1 H with ⟨q, _⟩ | ⟨_, _, _, _, rfl, rfl⟩
  · exact absurd q (by decide)
  · rw [hI]
    have R := fin_r S2 S3 hlt S4
    rw [e19] at R
    exact R.pre S1
theorem nq3_ok {i m : Int32} {e1 : Nat} {v1 c3 : Option Value} (hn2 : n ≤ 440) (hk : 33 ≤ kk) (h : R0 B n M s) (h40 : s.2.1 ≤ 40) (hL : LQ M ls) (hlt : ls.length < 16) (hi : i.toInt = ((112 + ls.length : Nat) : Int)) (g0 : rN M 640 (112 + ls.length) = 3) (g1 : rN M 641 (112 + ls.length) = m) (H1 : Ev none e1 167 0 [some (.ref 633), some (.int 0), some (.int 999)] [] M v1 M1 0 0) (H : Ev none e 170 75 [some (.ref 633), some (.int i), some (.int 3), c3] (v1.toList ++ []) M1 v M' 0 0) : BDr B n M M' v ls 3 (nmR B ((prS B kk).1 1) s 3 m) := by
  have T := tks_ok hn2 h H1
  unfold nmR
  rw [show (if (3 : Int32) = 2 then (1 : Int32) else 0) = 0 from by decide, show mostS 3 = 999 from by unfold mostS; decide]
  cases ht : tkR s 0 999 with
  | inl f =>
    rw [ht] at T
    obtain ⟨rfl, f1⟩ := T
    rcases rlq3_75 f1.1 H with ⟨_, rfl, rfl⟩ | ⟨q, _⟩
    · exact FLT.ql ⟨rfl, f1⟩
    · exact absurd rfl q
  | inr nu =>
    rw [ht] at T
    obtain ⟨rfl, f1, r1, t1⟩ := T
    exact (cq3_ok hn2 hk r1 h40 (hL.frm f1 (by decide)) hlt hi (by rw [f1.rn (by decide)]; exact g0) (by rw [f1.rn (by decide)]; exact g1) t1 H).pre (f1.more (fun _ hq => hq) (fun q hq => List.mem_append_right _ hq))
theorem lq3_ok {i : Int32} (hn2 : n ≤ 440) (hk : 33 ≤ kk) (h : R0 B n M s) (h40 : s.2.1 ≤ 40) (hL : LQ M ls) (hlt : ls.length < 16) (hi : i.toInt = ((112 + ls.length : Nat) : Int)) (g0 : rN M 640 (112 + ls.length) = 3) (g1 : rN M 641 (112 + ls.length) = 0) (g2 : rN M 642 (112 + ls.length) = 0) (H : Ev none e 170 0 [some (.ref 633), some (.int i), some (.int 3), none] [] M v M' 0 0) : BDr B n M M' v ls 3 (bdR B ((prS B kk).1 1) s 3) := by
  unfold bdR
  rw [if_neg (by decide), if_neg (by decide)]
  obtain ⟨e1, v1, M1, he, H1, H⟩ := rlq3_0 h.1 H
  exact nq3_ok hn2 hk h h40 hL hlt hi g0 g1 H1 H
theorem cq4_ok {i m nu : Int32} {c3 : Option Value} (hn2 : n ≤ 440) (hk : 33 ≤ kk) (h : R0 B n M s) (h40 : s.2.1 ≤ 40) (hL : LQ M ls) (hlt : ls.length < 16) (hi : i.toInt = ((112 + ls.length : Nat) : Int)) (g0 : rN M 640 (112 + ls.length) = 4) (g1 : rN M 641 (112 + ls.length) = m) (g2 : zI M 633 32 = nu) (H : Ev none e 170 75 [some (.ref 633), some (.int i), some (.int 4), c3] [.int 1] M v M' 0 0) : BDr B n M M' v ls 4 (cnR B ((prS B kk).1 1) s 4 m nu) := by
  obtain ⟨S1, S2, S3, S4⟩ := st_r h hL hlt g0 g1 g2
  have hI := clI hi
  have e19 : zI (wI (wI M 642 (112 + ls.length) (zI M 633 32)) 643 (112 + ls.length) (zI M 633 19)) 633 19 = zI M 633 19 := by rw [fI_wI, fI_wI]
  unfold cnR cndR
  rw [if_neg (by decide)]
  rw [if_neg (fun q => absurd q.1 (by decide))]
  rcases rlq4_75 h.1 H with ⟨q, _⟩ | ⟨_, _, _, _, rfl, rfl⟩
  · exact absurd q (by decide)
  · rw [hI]
    have R := fin_r S2 S3 hlt S4
    rw [e19] at R
    exact R.pre S1
theorem nq4_ok {i m : Int32} {e1 : Nat} {v1 c3 : Option Value} (hn2 : n ≤ 440) (hk : 33 ≤ kk) (h : R0 B n M s) (h40 : s.2.1 ≤ 40) (hL : LQ M ls) (hlt : ls.length < 16) (hi : i.toInt = ((112 + ls.length : Nat) : Int)) (g0 : rN M 640 (112 + ls.length) = 4) (g1 : rN M 641 (112 + ls.length) = m) (H1 : Ev none e1 167 0 [some (.ref 633), some (.int 0), some (.int 999)] [] M v1 M1 0 0) (H : Ev none e 170 75 [some (.ref 633), some (.int i), some (.int 4), c3] (v1.toList ++ []) M1 v M' 0 0) : BDr B n M M' v ls 4 (nmR B ((prS B kk).1 1) s 4 m) := by
  have T := tks_ok hn2 h H1
  unfold nmR
  rw [show (if (4 : Int32) = 2 then (1 : Int32) else 0) = 0 from by decide, show mostS 4 = 999 from by unfold mostS; decide]
  cases ht : tkR s 0 999 with
  | inl f =>
    rw [ht] at T
    obtain ⟨rfl, f1⟩ := T
    rcases rlq4_75 f1.1 H with ⟨_, rfl, rfl⟩ | ⟨q, _⟩
    · exact FLT.ql ⟨rfl, f1⟩
    · exact absurd rfl q
  | inr nu =>
    rw [ht] at T
    obtain ⟨rfl, f1, r1, t1⟩ := T
    exact (cq4_ok hn2 hk r1 h40 (hL.frm f1 (by decide)) hlt hi (by rw [f1.rn (by decide)]; exact g0) (by rw [f1.rn (by decide)]; exact g1) t1 H).pre (f1.more (fun _ hq => hq) (fun q hq => List.mem_append_right _ hq))
theorem lq4_ok {i : Int32} (hn2 : n ≤ 440) (hk : 33 ≤ kk) (h : R0 B n M s) (h40 : s.2.1 ≤ 40) (hL : LQ M ls) (hlt : ls.length < 16) (hi : i.toInt = ((112 + ls.length : Nat) : Int)) (g0 : rN M 640 (112 + ls.length) = 4) (g1 : rN M 641 (112 + ls.length) = 0) (g2 : rN M 642 (112 + ls.length) = 0) (H : Ev none e 170 0 [some (.ref 633), some (.int i), some (.int 4), none] [] M v M' 0 0) : BDr B n M M' v ls 4 (bdR B ((prS B kk).1 1) s 4) := by
  unfold bdR
  rw [if_neg (by decide), if_neg (by decide)]
  obtain ⟨e1, v1, M1, he, H1, H⟩ := rlq4_0 h.1 H
  exact nq4_ok hn2 hk h h40 hL hlt hi g0 g1 H1 H
theorem cq5_ok {i m nu : Int32} {c3 : Option Value} (hn2 : n ≤ 440) (hk : 33 ≤ kk) (h : R0 B n M s) (h40 : s.2.1 ≤ 40) (hL : LQ M ls) (hlt : ls.length < 16) (hi : i.toInt = ((112 + ls.length : Nat) : Int)) (g0 : rN M 640 (112 + ls.length) = 5) (g1 : rN M 641 (112 + ls.length) = m) (g2 : zI M 633 32 = nu) (H : Ev none e 170 75 [some (.ref 633), some (.int i), some (.int 5), c3] [.int 1] M v M' 0 0) : BDr B n M M' v ls 5 (cnR B ((prS B kk).1 1) s 5 m nu) := by
  obtain ⟨S1, S2, S3, S4⟩ := st_r h hL hlt g0 g1 g2
  have hI := clI hi
  have e19 : zI (wI (wI M 642 (112 + ls.length) (zI M 633 32)) 643 (112 + ls.length) (zI M 633 19)) 633 19 = zI M 633 19 := by rw [fI_wI, fI_wI]
  unfold cnR cndR
  rw [if_neg (by decide)]
  rcases rlq5_75 h.1 H with ⟨q, _⟩ | ⟨_, g, _, _, _, rfl, rfl⟩ | ⟨_, g, _, _, e1, v1, M1, he, H1, H⟩
  · exact absurd q (by decide)
  · rw [hI] at g ⊢
    rcases S2.2.2.2.1.word (u := ifW) (C := 26982) S2.2.2.2.2.2.1 (by decide) (by decide) with ⟨q1, _⟩ | ⟨_, q2⟩
    · rw [g] at q1
      exact absurd q1 (by decide)
    · rw [if_neg (fun q => q2 q.2)]
      have R := fin_r S2 S3 hlt S4
      rw [e19] at R
      exact R.pre S1
  · rw [hI] at g H1
    rcases S2.2.2.2.1.word (u := ifW) (C := 26982) S2.2.2.2.2.2.1 (by decide) (by decide) with ⟨_, q2⟩ | ⟨q1, _⟩
    · rw [if_pos ⟨by decide, q2⟩]
      have q3 := ix_wd (B := B) (tk := hdT s.1) (ws := [ifW]) (by decide) (by decide) (by
        rw [q2]
        decide)
      obtain ⟨rfl, f1, r1⟩ := S2.next hn2 (by rw [q3]; decide) (by rw [q3]; decide) H1
      obtain ⟨e2, v2, M2, he2, H2, H⟩ := rlq5_140 r1.1 H
      have R := rcond_ok hn2 hk r1 h40 H2
      have f1q : FB fQl wQl M M1 := S1.trans f1.ql
      cases hr : ((prS B kk).1 1) (s.1.tail, s.2.1, s.2.2) with
      | inr f =>
        rw [hr] at R
        obtain ⟨rfl, f2⟩ := R
        rcases rlq5_150 f2.1 H with ⟨_, rfl, rfl⟩ | ⟨q, _⟩
        · exact FLq.pre f1q (FLT.ql ⟨rfl, f2⟩)
        · exact absurd rfl q
      | inl s2 =>
        rw [hr] at R
        obtain ⟨rfl, f2, r2⟩ := R
        rcases rlq5_150 r2.1 H with ⟨q, _⟩ | ⟨_, _, rfl, rfl⟩
        · exact absurd q (by decide)
        · rw [hI]
          exact (fin_r r2 ((S3.frm f1 (by decide)).frm f2 (by decide)) hlt ((S4.frm f1 (by decide)).frm f2 (by decide))).pre (f1q.trans f2.ql)
    · exact absurd q1 g
theorem nq5_ok {i m : Int32} {e1 : Nat} {v1 c3 : Option Value} (hn2 : n ≤ 440) (hk : 33 ≤ kk) (h : R0 B n M s) (h40 : s.2.1 ≤ 40) (hL : LQ M ls) (hlt : ls.length < 16) (hi : i.toInt = ((112 + ls.length : Nat) : Int)) (g0 : rN M 640 (112 + ls.length) = 5) (g1 : rN M 641 (112 + ls.length) = m) (H1 : Ev none e1 167 0 [some (.ref 633), some (.int 0), some (.int 99)] [] M v1 M1 0 0) (H : Ev none e 170 75 [some (.ref 633), some (.int i), some (.int 5), c3] (v1.toList ++ []) M1 v M' 0 0) : BDr B n M M' v ls 5 (nmR B ((prS B kk).1 1) s 5 m) := by
  have T := tks_ok hn2 h H1
  unfold nmR
  rw [show (if (5 : Int32) = 2 then (1 : Int32) else 0) = 0 from by decide, show mostS 5 = 99 from by unfold mostS; decide]
  cases ht : tkR s 0 99 with
  | inl f =>
    rw [ht] at T
    obtain ⟨rfl, f1⟩ := T
    rcases rlq5_75 f1.1 H with ⟨_, rfl, rfl⟩ | ⟨q, _⟩ | ⟨q, _⟩
    · exact FLT.ql ⟨rfl, f1⟩
    · exact absurd rfl q
    · exact absurd rfl q
  | inr nu =>
    rw [ht] at T
    obtain ⟨rfl, f1, r1, t1⟩ := T
    exact (cq5_ok hn2 hk r1 h40 (hL.frm f1 (by decide)) hlt hi (by rw [f1.rn (by decide)]; exact g0) (by rw [f1.rn (by decide)]; exact g1) t1 H).pre (f1.more (fun _ hq => hq) (fun q hq => List.mem_append_right _ hq))
theorem lq5_ok {i : Int32} (hn2 : n ≤ 440) (hk : 33 ≤ kk) (h : R0 B n M s) (h40 : s.2.1 ≤ 40) (hL : LQ M ls) (hlt : ls.length < 16) (hi : i.toInt = ((112 + ls.length : Nat) : Int)) (g0 : rN M 640 (112 + ls.length) = 5) (g1 : rN M 641 (112 + ls.length) = 0) (g2 : rN M 642 (112 + ls.length) = 0) (H : Ev none e 170 0 [some (.ref 633), some (.int i), some (.int 5), none] [] M v M' 0 0) : BDr B n M M' v ls 5 (bdR B ((prS B kk).1 1) s 5) := by
  unfold bdR
  rw [if_neg (by decide), if_pos rfl]
  have em := fls h.2.2.2.1 h.2.2.2.2.2.1
  have hneg : ∀ x : Int32, x < 0 ↔ ¬ 0 ≤ x := fun x => by rw [Int32.lt_iff_toInt_lt, Int32.le_iff_toInt_le]; omega
  rcases rlq5_0 h.1 H with ⟨q, _, e1, v1, M1, he, H1, H⟩ | ⟨q, e1, v1, M1, he, H1, H⟩
  · rw [em] at q H1 H
    have hx : ¬ ixF (wdS B (hdT s.1)) meaW 0 < 0 := fun x => (hneg _).mp x q
    rw [if_neg hx]
    have h2t := ix_wd (by decide) (by decide) hx
    have hI := clI hi
    rw [hI] at H1
    have F1 : FB [] [641] M (wI M 641 (112 + ls.length) (ixF (wdS B (hdT s.1)) meaW 0)) := FB.wI (by simp)
    have R1 : R0 B n (wI M 641 (112 + ls.length) (ixF (wdS B (hdT s.1)) meaW 0)) s := h.frm h.1.ki F1 (by decide) (by decide)
    obtain ⟨rfl, f1, r1⟩ := R1.next hn2 (by rw [h2t]; decide) (by rw [h2t]; decide) H1
    have F2 : FB fQl wQl M M1 := (F1.more (fun _ hq => by cases hq) (by decide)).trans f1.ql
    obtain ⟨e2, v2, M2, he2, H2, H⟩ := rlq5_31 r1.1 H
    refine (nq5_ok (s := (s.1.tail, s.2.1, s.2.2)) hn2 hk r1 h40 (LQ.frm (hL.wr (by decide)) f1 (by decide)) hlt hi ?_ ?_ H2 H).pre F2
    · rw [f1.rn (by decide), F1.rn (by decide)]
      exact g0
    · rw [f1.rn (by decide), rN_wI_eq (by rw [(r_len h.1).2.1]; omega)]
  · rw [em] at q
    rw [if_pos ((hneg _).mpr q)]
    obtain ⟨rfl, f1⟩ := h.bad H1
    obtain ⟨rfl, rfl⟩ := rlq5_19 f1.1 H
    exact FLT.ql ⟨rfl, f1⟩
theorem lq6_ok {i : Int32} (hn2 : n ≤ 440) (hk : 33 ≤ kk) (h : R0 B n M s) (h40 : s.2.1 ≤ 40) (hL : LQ M ls) (hlt : ls.length < 16) (hi : i.toInt = ((112 + ls.length : Nat) : Int)) (g0 : rN M 640 (112 + ls.length) = 6) (g1 : rN M 641 (112 + ls.length) = 0) (g2 : rN M 642 (112 + ls.length) = 0) (H : Ev none e 170 0 [some (.ref 633), some (.int i), some (.int 6), none] [] M v M' 0 0) : BDr B n M M' v ls 6 (bdR B ((prS B kk).1 1) s 6) := by
  unfold bdR
  rw [if_pos rfl]
  obtain ⟨_, e1, v1, M1, he, H1, H⟩ := rlq6_0 h.1 H
  have hI := clI hi
  rw [hI] at H1
  have F1 : FB [] [643] M (wI M 643 (112 + ls.length) (zI M 633 19)) := FB.wI (by simp)
  have R1 : R0 B n (wI M 643 (112 + ls.length) (zI M 633 19)) s := h.frm h.1.ki F1 (by decide) (by decide)
  have L1 : LQ (wI M 643 (112 + ls.length) (zI M 633 19)) ls := hL.wr (by decide)
  have E1 : ER (wI M 643 (112 + ls.length) (zI M 633 19)) (112 + ls.length) 6 0 0 s.2.2.length := by
    refine ⟨by rw [F1.rn (by decide)]; exact g0, by rw [F1.rn (by decide)]; exact g1, by rw [F1.rn (by decide)]; exact g2, ?_⟩
    rw [rN_wI_eq (by rw [(r_len h.1).2.2.2.1]; omega)]
    exact h.2.2.2.2.2.2.2.1.1
  have F2 : FB fQl wQl M (wI M 643 (112 + ls.length) (zI M 633 19)) := F1.more (fun _ hq => by cases hq) (by decide)
  have R := rcond_ok hn2 hk R1 h40 H1
  unfold cnR cndR
  rw [if_pos rfl]
  cases hr : ((prS B kk).1 1) s with
  | inr f =>
    rw [hr] at R
    obtain ⟨rfl, f2⟩ := R
    rcases rlq6_150 f2.1 H with ⟨_, rfl, rfl⟩ | ⟨q, _⟩
    · exact FLq.pre F2 (FLT.ql ⟨rfl, f2⟩)
    · exact absurd rfl q
  | inl s2 =>
    rw [hr] at R
    obtain ⟨rfl, f2, r2⟩ := R
    rcases rlq6_150 r2.1 H with ⟨q, _⟩ | ⟨_, _, rfl, rfl⟩
    · exact absurd q (by decide)
    · rw [hI]
      exact (fin_r r2 (L1.frm f2 (by decide)) hlt (E1.frm f2 (by decide))).pre (F2.trans f2.ql)
theorem cq7_ok {i m nu : Int32} {c3 : Option Value} (hn2 : n ≤ 440) (hk : 33 ≤ kk) (h : R0 B n M s) (h40 : s.2.1 ≤ 40) (hL : LQ M ls) (hlt : ls.length < 16) (hi : i.toInt = ((112 + ls.length : Nat) : Int)) (g0 : rN M 640 (112 + ls.length) = 7) (g1 : rN M 641 (112 + ls.length) = m) (g2 : zI M 633 32 = nu) (H : Ev none e 170 75 [some (.ref 633), some (.int i), some (.int 7), c3] [.int 1] M v M' 0 0) : BDr B n M M' v ls 7 (cnR B ((prS B kk).1 1) s 7 m nu) := by
  obtain ⟨S1, S2, S3, S4⟩ := st_r h hL hlt g0 g1 g2
  have hI := clI hi
  have e19 : zI (wI (wI M 642 (112 + ls.length) (zI M 633 32)) 643 (112 + ls.length) (zI M 633 19)) 633 19 = zI M 633 19 := by rw [fI_wI, fI_wI]
  unfold cnR cndR
  rw [if_neg (by decide)]
  rw [if_neg (fun q => absurd q.1 (by decide))]
  rcases rlq7_75 h.1 H with ⟨q, _⟩ | ⟨_, _, _, _, rfl, rfl⟩
  · exact absurd q (by decide)
  · rw [hI]
    have R := fin_r S2 S3 hlt S4
    rw [e19] at R
    exact R.pre S1
theorem nq7_ok {i m : Int32} {e1 : Nat} {v1 c3 : Option Value} (hn2 : n ≤ 440) (hk : 33 ≤ kk) (h : R0 B n M s) (h40 : s.2.1 ≤ 40) (hL : LQ M ls) (hlt : ls.length < 16) (hi : i.toInt = ((112 + ls.length : Nat) : Int)) (g0 : rN M 640 (112 + ls.length) = 7) (g1 : rN M 641 (112 + ls.length) = m) (H1 : Ev none e1 167 0 [some (.ref 633), some (.int 0), some (.int 9)] [] M v1 M1 0 0) (H : Ev none e 170 75 [some (.ref 633), some (.int i), some (.int 7), c3] (v1.toList ++ []) M1 v M' 0 0) : BDr B n M M' v ls 7 (nmR B ((prS B kk).1 1) s 7 m) := by
  have T := tks_ok hn2 h H1
  unfold nmR
  rw [show (if (7 : Int32) = 2 then (1 : Int32) else 0) = 0 from by decide, show mostS 7 = 9 from by unfold mostS; decide]
  cases ht : tkR s 0 9 with
  | inl f =>
    rw [ht] at T
    obtain ⟨rfl, f1⟩ := T
    rcases rlq7_75 f1.1 H with ⟨_, rfl, rfl⟩ | ⟨q, _⟩
    · exact FLT.ql ⟨rfl, f1⟩
    · exact absurd rfl q
  | inr nu =>
    rw [ht] at T
    obtain ⟨rfl, f1, r1, t1⟩ := T
    exact (cq7_ok hn2 hk r1 h40 (hL.frm f1 (by decide)) hlt hi (by rw [f1.rn (by decide)]; exact g0) (by rw [f1.rn (by decide)]; exact g1) t1 H).pre (f1.more (fun _ hq => hq) (fun q hq => List.mem_append_right _ hq))
theorem lq7_ok {i : Int32} (hn2 : n ≤ 440) (hk : 33 ≤ kk) (h : R0 B n M s) (h40 : s.2.1 ≤ 40) (hL : LQ M ls) (hlt : ls.length < 16) (hi : i.toInt = ((112 + ls.length : Nat) : Int)) (g0 : rN M 640 (112 + ls.length) = 7) (g1 : rN M 641 (112 + ls.length) = 0) (g2 : rN M 642 (112 + ls.length) = 0) (H : Ev none e 170 0 [some (.ref 633), some (.int i), some (.int 7), none] [] M v M' 0 0) : BDr B n M M' v ls 7 (bdR B ((prS B kk).1 1) s 7) := by
  unfold bdR
  rw [if_neg (by decide), if_neg (by decide)]
  obtain ⟨e1, v1, M1, he, H1, H⟩ := rlq7_0 h.1 H
  exact nq7_ok hn2 hk h h40 hL hlt hi g0 g1 H1 H
end LQK
