/-! THE CLASS'S NUMBERS (made by glin.py) -/
def MID (B : Nat → Int32) (n t : Nat) (M : Mem) (s : Sg) (ls : List Lnq) (l : Lnq) : Prop := CSt B n t M s ∧ LCt M t ls ∧ ENq M t ls.length l.1 l.2.1 l.2.2.1 l.2.2.2.1 ∧ FTq M t (ls ++ [l])
def PRE (B : Nat → Int32) (n t : Nat) (M : Mem) (s : Sg) (ls : List Lnq) (x m : Int32) (fr : Nat) : Prop := CSt B n t M s ∧ LCt M t ls ∧ ENq M t ls.length x m 0 fr ∧ FTq M t ls ∧ ls.length < 16
def NUr (B : Nat → Int32) (n t : Nat) (M' : Mem) (v : Option Value) (s : Sg) (ls : List Lnq) (x m : Int32) (fr : Nat) : Prop := ((hdT s.1).1 ≠ 3 ∧ ERt M' v (1, (hdT s.1).2.1)) ∨ ((hdT s.1).1 = 3 ∧ (mostS x < (hdT s.1).2.2.2 ∨ (x = 2 ∧ (hdT s.1).2.2.2 < 1)) ∧ ERt M' v (2, (hdT s.1).2.1)) ∨ ((hdT s.1).1 = 3 ∧ ¬ (mostS x < (hdT s.1).2.2.2 ∨ (x = 2 ∧ (hdT s.1).2.2.2 < 1)) ∧ v = some (.int 1) ∧ MID B n t M' (s.1.tail, s.2.1, s.2.2) ls (x, m, (hdT s.1).2.2.2, fr, 0))
section NUM
variable {n t : Nat} {B : Nat → Int32} {M M' : Mem} {s : Sg} {ls : List Lnq}
theorem LCt.ui {a : Nat} {x : Int32} (h : LCt M t ls) : LCt (wI M a ls.length x) t ls := by
  refine ⟨by rw [fI_wI]; exact h.1, h.2.1, fun j l hj => ?_⟩
  have hjl := (List.getElem?_eq_some_iff.mp hj).1
  rw [rN_wI_ne (fun q => by omega), rN_wI_ne (fun q => by omega), rN_wI_ne (fun q => by omega), rN_wI_ne (fun q => by omega), rN_wI_ne (fun q => by omega)]
  exact h.2.2 j l hj
theorem LCt.uf {a k : Nat} {x : Int32} (h : LCt M t ls) (hk : k ≠ 8) : LCt (wF M a k x) t ls := by
  refine ⟨by rw [fI_wF_ne (fun q => hk q.2.symm)]; exact h.1, h.2.1, fun j l hj => ?_⟩
  rw [rN_wF, rN_wF, rN_wF, rN_wF, rN_wF]
  exact h.2.2 j l hj
theorem tdS_app {l : Lnq} : tdS (ls ++ [l]) = tdB (hasK ls 2 || decide (l.1 = 2)) (hasK ls 3 || decide (l.1 = 3)) (hasK ls 4 || decide (l.1 = 4)) (hasK ls 7 || decide (l.1 = 7)) := by
  unfold tdS
  rw [hasK_app, hasK_app, hasK_app, hasK_app]
theorem CSt.err {M1 : Mem} {v v1 : Option Value} {k : Int32} {d : Nat} (hC : CSt B n t M s) (H1 : Ev none d 27 0 [some (.ref 3), some (.int k)] [] M v1 M1 0 0) (hr : ∀ y : Int32, v1 = some (.int y) → SQ M1 → v = some (.int y) ∧ M' = M1) : FA (fP t) (wP t) M M' ∧ ERt M' v (k, (hdT s.1).2.1) := by
  obtain ⟨f1, f2⟩ := hC.fail H1
  obtain ⟨g1, g2, g3, g4⟩ := RS_err f2
  obtain ⟨r1, r2⟩ := hr 0 g1 g2
  subst r2
  exact ⟨f1, r1, g2, g3, g4⟩
theorem tdk0 : ∀ a b c d : Bool, tdB (a || decide ((0 : Int32) = 2)) (b || decide ((0 : Int32) = 3)) (c || decide ((0 : Int32) = 4)) (d || decide ((0 : Int32) = 7)) = tdB a b c d ||| 0 := by decide
theorem nu0_ok {e : Nat} {v : Option Value} {i m : Int32} {fr : Nat} (ht : gNth sT t = some 28) (hP : PRE B n t M s ls 0 m fr) (hi : i.toInt = (ls.length : Int)) (H : Ev none e 35 0 [some (.ref 3), some (.int i), some (.int 0), none, none, none] [] M v M' 0 0) : FA (fLq t) (wLn t) M M' ∧ NUr B n t M' v s ls 0 m fr := by
  obtain ⟨hC, hL, hE, hF, hl16⟩ := hP
  have hb := tx_ge ht
  obtain ⟨c1, c2, c3, c4, c5, c6, c7⟩ := hC.2.2.1.at
  have h8 := hC.2.2.2.2.2.1
  subst h8
  have hix : i.toNatClampNeg = ls.length := cl_n hi
  have hmo : mostS 0 = 999 := by decide
  rcases nb0_0 hC.1 ht H with ⟨g1, g2, -, e1, v1, M1, rfl, H1, H⟩ | ⟨g1, g2, -, -, e1, v1, M1, rfl, H1, H⟩ | ⟨g1, e1, v1, M1, rfl, H1, H⟩
  · rw [c5] at g1
    rw [c4 g1] at g2
    obtain ⟨f1, f2⟩ := hC.err (v := v) (M' := M') H1 (fun y hy S => by subst hy; exact nb0_71 S (by rw [(hC.fail H1).1.fr (by simp [fP])]; exact ht) H)
    exact ⟨f1.ln, Or.inr (Or.inl ⟨g1, Or.inl (by rw [hmo]; exact g2), f2⟩)⟩
  · rw [c5] at g1
    rw [c4 g1] at g2 H1 H
    rw [hix] at H1
    have hrd : zI M 3 10 = tdS ls := hF.2.2.2.2
    rw [hrd] at H1
    have F1 : FA [(3, 10)] [fR M 3 8 + 3] M (wF (wI M (fR M 3 8 + 3) ls.length (hdT s.1).2.2.2) 3 10 (tdS ls ||| 0)) := (FA.wI (by simp)).trans (FA.wF (by simp))
    have S3 : SQ (wF (wI M (fR M 3 8 + 3) ls.length (hdT s.1).2.2.2) 3 10 (tdS ls ||| 0)) := hC.1.ki.kf
    have L3 : LCt (wF (wI M (fR M 3 8 + 3) ls.length (hdT s.1).2.2.2) 3 10 (tdS ls ||| 0)) (fR M 3 8) ls := hL.ui.uf (by decide)
    have hlen : ls.length < (zrw M (fR M 3 8 + 3)).length := by rw [(hC.1.1.row (fx_g2 ht) qw_31).2]; exact hl16
    have E3 : ENq (wF (wI M (fR M 3 8 + 3) ls.length (hdT s.1).2.2.2) 3 10 (tdS ls ||| 0)) (fR M 3 8) ls.length 0 m (hdT s.1).2.2.2 fr := ⟨by rw [rN_wF, rN_wI_ne (fun q => by omega)]; exact hE.1, by rw [rN_wF, rN_wI_ne (fun q => by omega)]; exact hE.2.1, by rw [rN_wF, rN_wI_eq hlen], by rw [rN_wF, rN_wI_ne (fun q => by omega)]; exact hE.2.2.2⟩
    have Q3 : FTq (wF (wI M (fR M 3 8 + 3) ls.length (hdT s.1).2.2.2) 3 10 (tdS ls ||| 0)) (fR M 3 8) (ls ++ [(0, m, (hdT s.1).2.2.2, fr, 0)]) := ⟨by rw [fI_wF_ne (fun q => by omega), fI_wI, tv_app2 (by exact (by decide : (0 : Int32) ≠ 2))]; exact hF.1, by rw [fI_wF_ne (fun q => by omega), fI_wI, tv_app2 (by exact (by decide : (0 : Int32) ≠ 3))]; exact hF.2.1, by rw [fI_wF_ne (fun q => by omega), fI_wI, tv_app2 (by exact (by decide : (0 : Int32) ≠ 4))]; exact hF.2.2.1, by rw [fI_wF_ne (fun q => by omega), fI_wI, tv_app2 (by exact (by decide : (0 : Int32) ≠ 7))]; exact hF.2.2.2.1, by rw [fI_wF_eq hC.1.ki.1 qa_3 qi_3_10, tdS_app]; exact (tdk0 _ _ _ _).symm⟩
    have C3 : CSt B n (fR M 3 8) (wF (wI M (fR M 3 8 + 3) ls.length (hdT s.1).2.2.2) 3 10 (tdS ls ||| 0)) s := hC.frm S3 F1 (fun q hq r => by
      simp only [List.mem_cons, List.not_mem_nil, or_false] at hq r
      rcases hq with rfl | rfl | rfl | rfl | rfl | rfl | rfl <;> simp only [Prod.mk.injEq] at r <;> omega) (fun b hb r => by
      simp only [List.mem_cons, List.not_mem_nil, or_false] at hb r
      omega)
    obtain ⟨rfl, F4, C4⟩ := C3.go ht (by rw [g1]; decide) (by rw [g1]; decide) H1
    obtain ⟨r1, rfl⟩ := nb0_217 C4.1 (by rw [F4.fr (by simp [fP]), F1.fr (by simp)]; exact ht) H
    obtain ⟨p1, p2, p3, p4⟩ := fP_no hb.1
    refine ⟨(F1.more (fun q hq => ?_) (fun q hq => ?_)).trans F4.ln, Or.inr (Or.inr ⟨g1, ?_, r1, C4, L3.frm F4 p2 p3, E3.frm F4 p4, Q3.frm F4 p1⟩)⟩
    · simp only [fLq, List.mem_cons, List.not_mem_nil, or_false] at hq ⊢
      simp [hq]
    · simp only [wLn, List.mem_cons, List.not_mem_nil, or_false] at hq ⊢
      simp [hq]
    · rw [hmo]
      rintro (q | q)
      · exact g2 q
      · exact absurd q.1 (by decide)
  · rw [c5] at g1
    obtain ⟨f1, f2⟩ := hC.err (v := v) (M' := M') H1 (fun y hy S => by subst hy; exact nb0_13 S (by rw [(hC.fail H1).1.fr (by simp [fP])]; exact ht) H)
    exact ⟨f1.ln, Or.inl ⟨g1, f2⟩⟩
theorem tdk1 : ∀ a b c d : Bool, tdB (a || decide ((1 : Int32) = 2)) (b || decide ((1 : Int32) = 3)) (c || decide ((1 : Int32) = 4)) (d || decide ((1 : Int32) = 7)) = tdB a b c d ||| 0 := by decide
theorem nu1_ok {e : Nat} {v : Option Value} {i m : Int32} {fr : Nat} (ht : gNth sT t = some 28) (hP : PRE B n t M s ls 1 m fr) (hi : i.toInt = (ls.length : Int)) (H : Ev none e 35 0 [some (.ref 3), some (.int i), some (.int 1), none, none, none] [] M v M' 0 0) : FA (fLq t) (wLn t) M M' ∧ NUr B n t M' v s ls 1 m fr := by
  obtain ⟨hC, hL, hE, hF, hl16⟩ := hP
  have hb := tx_ge ht
  obtain ⟨c1, c2, c3, c4, c5, c6, c7⟩ := hC.2.2.1.at
  have h8 := hC.2.2.2.2.2.1
  subst h8
  have hix : i.toNatClampNeg = ls.length := cl_n hi
  have hmo : mostS 1 = 999 := by decide
  rcases nb1_0 hC.1 ht H with ⟨g1, g2, -, e1, v1, M1, rfl, H1, H⟩ | ⟨g1, g2, -, -, e1, v1, M1, rfl, H1, H⟩ | ⟨g1, e1, v1, M1, rfl, H1, H⟩
  · rw [c5] at g1
    rw [c4 g1] at g2
    obtain ⟨f1, f2⟩ := hC.err (v := v) (M' := M') H1 (fun y hy S => by subst hy; exact nb1_71 S (by rw [(hC.fail H1).1.fr (by simp [fP])]; exact ht) H)
    exact ⟨f1.ln, Or.inr (Or.inl ⟨g1, Or.inl (by rw [hmo]; exact g2), f2⟩)⟩
  · rw [c5] at g1
    rw [c4 g1] at g2 H1 H
    rw [hix] at H1
    have hrd : zI M 3 10 = tdS ls := hF.2.2.2.2
    rw [hrd] at H1
    have F1 : FA [(3, 10)] [fR M 3 8 + 3] M (wF (wI M (fR M 3 8 + 3) ls.length (hdT s.1).2.2.2) 3 10 (tdS ls ||| 0)) := (FA.wI (by simp)).trans (FA.wF (by simp))
    have S3 : SQ (wF (wI M (fR M 3 8 + 3) ls.length (hdT s.1).2.2.2) 3 10 (tdS ls ||| 0)) := hC.1.ki.kf
    have L3 : LCt (wF (wI M (fR M 3 8 + 3) ls.length (hdT s.1).2.2.2) 3 10 (tdS ls ||| 0)) (fR M 3 8) ls := hL.ui.uf (by decide)
    have hlen : ls.length < (zrw M (fR M 3 8 + 3)).length := by rw [(hC.1.1.row (fx_g2 ht) qw_31).2]; exact hl16
    have E3 : ENq (wF (wI M (fR M 3 8 + 3) ls.length (hdT s.1).2.2.2) 3 10 (tdS ls ||| 0)) (fR M 3 8) ls.length 1 m (hdT s.1).2.2.2 fr := ⟨by rw [rN_wF, rN_wI_ne (fun q => by omega)]; exact hE.1, by rw [rN_wF, rN_wI_ne (fun q => by omega)]; exact hE.2.1, by rw [rN_wF, rN_wI_eq hlen], by rw [rN_wF, rN_wI_ne (fun q => by omega)]; exact hE.2.2.2⟩
    have Q3 : FTq (wF (wI M (fR M 3 8 + 3) ls.length (hdT s.1).2.2.2) 3 10 (tdS ls ||| 0)) (fR M 3 8) (ls ++ [(1, m, (hdT s.1).2.2.2, fr, 0)]) := ⟨by rw [fI_wF_ne (fun q => by omega), fI_wI, tv_app2 (by exact (by decide : (1 : Int32) ≠ 2))]; exact hF.1, by rw [fI_wF_ne (fun q => by omega), fI_wI, tv_app2 (by exact (by decide : (1 : Int32) ≠ 3))]; exact hF.2.1, by rw [fI_wF_ne (fun q => by omega), fI_wI, tv_app2 (by exact (by decide : (1 : Int32) ≠ 4))]; exact hF.2.2.1, by rw [fI_wF_ne (fun q => by omega), fI_wI, tv_app2 (by exact (by decide : (1 : Int32) ≠ 7))]; exact hF.2.2.2.1, by rw [fI_wF_eq hC.1.ki.1 qa_3 qi_3_10, tdS_app]; exact (tdk1 _ _ _ _).symm⟩
    have C3 : CSt B n (fR M 3 8) (wF (wI M (fR M 3 8 + 3) ls.length (hdT s.1).2.2.2) 3 10 (tdS ls ||| 0)) s := hC.frm S3 F1 (fun q hq r => by
      simp only [List.mem_cons, List.not_mem_nil, or_false] at hq r
      rcases hq with rfl | rfl | rfl | rfl | rfl | rfl | rfl <;> simp only [Prod.mk.injEq] at r <;> omega) (fun b hb r => by
      simp only [List.mem_cons, List.not_mem_nil, or_false] at hb r
      omega)
    obtain ⟨rfl, F4, C4⟩ := C3.go ht (by rw [g1]; decide) (by rw [g1]; decide) H1
    obtain ⟨r1, rfl⟩ := nb1_217 C4.1 (by rw [F4.fr (by simp [fP]), F1.fr (by simp)]; exact ht) H
    obtain ⟨p1, p2, p3, p4⟩ := fP_no hb.1
    refine ⟨(F1.more (fun q hq => ?_) (fun q hq => ?_)).trans F4.ln, Or.inr (Or.inr ⟨g1, ?_, r1, C4, L3.frm F4 p2 p3, E3.frm F4 p4, Q3.frm F4 p1⟩)⟩
    · simp only [fLq, List.mem_cons, List.not_mem_nil, or_false] at hq ⊢
      simp [hq]
    · simp only [wLn, List.mem_cons, List.not_mem_nil, or_false] at hq ⊢
      simp [hq]
    · rw [hmo]
      rintro (q | q)
      · exact g2 q
      · exact absurd q.1 (by decide)
  · rw [c5] at g1
    obtain ⟨f1, f2⟩ := hC.err (v := v) (M' := M') H1 (fun y hy S => by subst hy; exact nb1_13 S (by rw [(hC.fail H1).1.fr (by simp [fP])]; exact ht) H)
    exact ⟨f1.ln, Or.inl ⟨g1, f2⟩⟩
theorem tdk2 : ∀ a b c d : Bool, tdB (a || decide ((2 : Int32) = 2)) (b || decide ((2 : Int32) = 3)) (c || decide ((2 : Int32) = 4)) (d || decide ((2 : Int32) = 7)) = tdB a b c d ||| ((1 : Int32) <<< ((2 : Int32) &&& 31)) := by decide
theorem nu2_ok {e : Nat} {v : Option Value} {i m : Int32} {fr : Nat} (ht : gNth sT t = some 28) (hP : PRE B n t M s ls 2 m fr) (hi : i.toInt = (ls.length : Int)) (hk : hasK ls 2 = false) (H : Ev none e 35 0 [some (.ref 3), some (.int i), some (.int 2), none, none, none] [] M v M' 0 0) : FA (fLq t) (wLn t) M M' ∧ NUr B n t M' v s ls 2 m fr := by
  obtain ⟨hC, hL, hE, hF, hl16⟩ := hP
  have hb := tx_ge ht
  obtain ⟨c1, c2, c3, c4, c5, c6, c7⟩ := hC.2.2.1.at
  have h8 := hC.2.2.2.2.2.1
  subst h8
  have hix : i.toNatClampNeg = ls.length := cl_n hi
  have hmo : mostS 2 = 999 := by decide
  rcases nb2_0 hC.1 ht H with ⟨g1, g2, -, e1, v1, M1, rfl, H1, H⟩ | ⟨g1, g2, g3, -, -, e1, v1, M1, rfl, H1, H⟩ | ⟨g1, g2, g3, -, e1, v1, M1, rfl, H1, H⟩ | ⟨g1, e1, v1, M1, rfl, H1, H⟩
  · rw [c5] at g1
    rw [c4 g1] at g2
    obtain ⟨f1, f2⟩ := hC.err (v := v) (M' := M') H1 (fun y hy S => by subst hy; exact nb2_71 S (by rw [(hC.fail H1).1.fr (by simp [fP])]; exact ht) H)
    exact ⟨f1.ln, Or.inr (Or.inl ⟨g1, Or.inl (by rw [hmo]; exact g2), f2⟩)⟩
  · rw [c5] at g1
    rw [c4 g1] at g2 g3 H1 H
    rw [hix] at H1
    have hrd : zI (wF (wI M (fR M 3 8 + 3) ls.length (hdT s.1).2.2.2) (fR M 3 8) 10 (hdT s.1).2.2.2) 3 10 = tdS ls := by
      rw [fI_wF_ne (fun q => by omega), fI_wI]
      exact hF.2.2.2.2
    rw [hrd] at H1
    have F1 : FA [(fR M 3 8, 10), (3, 10)] [fR M 3 8 + 3] M (wF (wF (wI M (fR M 3 8 + 3) ls.length (hdT s.1).2.2.2) (fR M 3 8) 10 (hdT s.1).2.2.2) 3 10 (tdS ls ||| ((1 : Int32) <<< ((2 : Int32) &&& 31)))) := ((FA.wI (by simp)).trans (FA.wF (by simp))).trans (FA.wF (by simp))
    have S3 : SQ (wF (wF (wI M (fR M 3 8 + 3) ls.length (hdT s.1).2.2.2) (fR M 3 8) 10 (hdT s.1).2.2.2) 3 10 (tdS ls ||| ((1 : Int32) <<< ((2 : Int32) &&& 31)))) := hC.1.ki.kf.kf
    have L3 : LCt (wF (wF (wI M (fR M 3 8 + 3) ls.length (hdT s.1).2.2.2) (fR M 3 8) 10 (hdT s.1).2.2.2) 3 10 (tdS ls ||| ((1 : Int32) <<< ((2 : Int32) &&& 31)))) (fR M 3 8) ls := (hL.ui.uf (by decide)).uf (by decide)
    have hlen : ls.length < (zrw M (fR M 3 8 + 3)).length := by rw [(hC.1.1.row (fx_g2 ht) qw_31).2]; exact hl16
    have E3 : ENq (wF (wF (wI M (fR M 3 8 + 3) ls.length (hdT s.1).2.2.2) (fR M 3 8) 10 (hdT s.1).2.2.2) 3 10 (tdS ls ||| ((1 : Int32) <<< ((2 : Int32) &&& 31)))) (fR M 3 8) ls.length 2 m (hdT s.1).2.2.2 fr := ⟨by rw [rN_wF, rN_wF, rN_wI_ne (fun q => by omega)]; exact hE.1, by rw [rN_wF, rN_wF, rN_wI_ne (fun q => by omega)]; exact hE.2.1, by rw [rN_wF, rN_wF, rN_wI_eq hlen], by rw [rN_wF, rN_wF, rN_wI_ne (fun q => by omega)]; exact hE.2.2.2⟩
    have Q3 : FTq (wF (wF (wI M (fR M 3 8 + 3) ls.length (hdT s.1).2.2.2) (fR M 3 8) 10 (hdT s.1).2.2.2) 3 10 (tdS ls ||| ((1 : Int32) <<< ((2 : Int32) &&& 31)))) (fR M 3 8) (ls ++ [(2, m, (hdT s.1).2.2.2, fr, 0)]) := ⟨by rw [fI_wF_ne (fun q => by omega), fI_wF_eq hC.1.ki.1 ht qi_28_10, tv_app hk]; rfl, by rw [fI_wF_ne (fun q => by omega), fI_wF_ne (fun q => by omega), fI_wI, tv_app2 (by exact (by decide : (2 : Int32) ≠ 3))]; exact hF.2.1, by rw [fI_wF_ne (fun q => by omega), fI_wF_ne (fun q => by omega), fI_wI, tv_app2 (by exact (by decide : (2 : Int32) ≠ 4))]; exact hF.2.2.1, by rw [fI_wF_ne (fun q => by omega), fI_wF_ne (fun q => by omega), fI_wI, tv_app2 (by exact (by decide : (2 : Int32) ≠ 7))]; exact hF.2.2.2.1, by rw [fI_wF_eq hC.1.ki.kf.1 qa_3 qi_3_10, tdS_app]; exact (tdk2 _ _ _ _).symm⟩
    have C3 : CSt B n (fR M 3 8) (wF (wF (wI M (fR M 3 8 + 3) ls.length (hdT s.1).2.2.2) (fR M 3 8) 10 (hdT s.1).2.2.2) 3 10 (tdS ls ||| ((1 : Int32) <<< ((2 : Int32) &&& 31)))) s := hC.frm S3 F1 (fun q hq r => by
      simp only [List.mem_cons, List.not_mem_nil, or_false] at hq r
      rcases hq with rfl | rfl | rfl | rfl | rfl | rfl | rfl <;> simp only [Prod.mk.injEq] at r <;> omega) (fun b hb r => by
      simp only [List.mem_cons, List.not_mem_nil, or_false] at hb r
      omega)
    obtain ⟨rfl, F4, C4⟩ := C3.go ht (by rw [g1]; decide) (by rw [g1]; decide) H1
    obtain ⟨r1, rfl⟩ := nb2_217 C4.1 (by rw [F4.fr (by simp [fP]), F1.fr (by simp)]; exact ht) H
    obtain ⟨p1, p2, p3, p4⟩ := fP_no hb.1
    refine ⟨(F1.more (fun q hq => ?_) (fun q hq => ?_)).trans F4.ln, Or.inr (Or.inr ⟨g1, ?_, r1, C4, L3.frm F4 p2 p3, E3.frm F4 p4, Q3.frm F4 p1⟩)⟩
    · simp only [fLq, List.mem_cons, List.not_mem_nil, or_false] at hq ⊢
      rcases hq with h | h <;> simp [h]
    · simp only [wLn, List.mem_cons, List.not_mem_nil, or_false] at hq ⊢
      simp [hq]
    · rw [hmo]
      rintro (q | q)
      · exact g2 q
      · have q2 := q.2
        rw [Int32.lt_iff_toInt_lt] at q2
        rw [Int32.le_iff_toInt_le] at g3
        omega
  · rw [c5] at g1
    rw [c4 g1] at g2 g3
    obtain ⟨f1, f2⟩ := hC.err (v := v) (M' := M') H1 (fun y hy S => by subst hy; exact nb2_71 S (by rw [(hC.fail H1).1.fr (by simp [fP])]; exact ht) H)
    exact ⟨f1.ln, Or.inr (Or.inl ⟨g1, Or.inr ⟨rfl, by rw [Int32.lt_iff_toInt_lt]; rw [Int32.le_iff_toInt_le] at g3; omega⟩, f2⟩)⟩
  · rw [c5] at g1
    obtain ⟨f1, f2⟩ := hC.err (v := v) (M' := M') H1 (fun y hy S => by subst hy; exact nb2_13 S (by rw [(hC.fail H1).1.fr (by simp [fP])]; exact ht) H)
    exact ⟨f1.ln, Or.inl ⟨g1, f2⟩⟩
theorem tdk3 : ∀ a b c d : Bool, tdB (a || decide ((3 : Int32) = 2)) (b || decide ((3 : Int32) = 3)) (c || decide ((3 : Int32) = 4)) (d || decide ((3 : Int32) = 7)) = tdB a b c d ||| ((1 : Int32) <<< ((3 : Int32) &&& 31)) := by decide
theorem nu3_ok {e : Nat} {v : Option Value} {i m : Int32} {fr : Nat} (ht : gNth sT t = some 28) (hP : PRE B n t M s ls 3 m fr) (hi : i.toInt = (ls.length : Int)) (hk : hasK ls 3 = false) (H : Ev none e 35 0 [some (.ref 3), some (.int i), some (.int 3), none, none, none] [] M v M' 0 0) : FA (fLq t) (wLn t) M M' ∧ NUr B n t M' v s ls 3 m fr := by
  obtain ⟨hC, hL, hE, hF, hl16⟩ := hP
  have hb := tx_ge ht
  obtain ⟨c1, c2, c3, c4, c5, c6, c7⟩ := hC.2.2.1.at
  have h8 := hC.2.2.2.2.2.1
  subst h8
  have hix : i.toNatClampNeg = ls.length := cl_n hi
  have hmo : mostS 3 = 999 := by decide
  rcases nb3_0 hC.1 ht H with ⟨g1, g2, -, e1, v1, M1, rfl, H1, H⟩ | ⟨g1, g2, -, -, e1, v1, M1, rfl, H1, H⟩ | ⟨g1, e1, v1, M1, rfl, H1, H⟩
  · rw [c5] at g1
    rw [c4 g1] at g2
    obtain ⟨f1, f2⟩ := hC.err (v := v) (M' := M') H1 (fun y hy S => by subst hy; exact nb3_71 S (by rw [(hC.fail H1).1.fr (by simp [fP])]; exact ht) H)
    exact ⟨f1.ln, Or.inr (Or.inl ⟨g1, Or.inl (by rw [hmo]; exact g2), f2⟩)⟩
  · rw [c5] at g1
    rw [c4 g1] at g2 H1 H
    rw [hix] at H1
    have hrd : zI M 3 10 = tdS ls := by
      exact hF.2.2.2.2
    rw [hrd] at H1
    have F1 : FA [(fR M 3 8, 11), (3, 10)] [fR M 3 8 + 3] M (wF (wF (wI M (fR M 3 8 + 3) ls.length (hdT s.1).2.2.2) (fR M 3 8) 11 (hdT s.1).2.2.2) 3 10 (tdS ls ||| ((1 : Int32) <<< ((3 : Int32) &&& 31)))) := ((FA.wI (by simp)).trans (FA.wF (by simp))).trans (FA.wF (by simp))
    have S3 : SQ (wF (wF (wI M (fR M 3 8 + 3) ls.length (hdT s.1).2.2.2) (fR M 3 8) 11 (hdT s.1).2.2.2) 3 10 (tdS ls ||| ((1 : Int32) <<< ((3 : Int32) &&& 31)))) := hC.1.ki.kf.kf
    have L3 : LCt (wF (wF (wI M (fR M 3 8 + 3) ls.length (hdT s.1).2.2.2) (fR M 3 8) 11 (hdT s.1).2.2.2) 3 10 (tdS ls ||| ((1 : Int32) <<< ((3 : Int32) &&& 31)))) (fR M 3 8) ls := (hL.ui.uf (by decide)).uf (by decide)
    have hlen : ls.length < (zrw M (fR M 3 8 + 3)).length := by rw [(hC.1.1.row (fx_g2 ht) qw_31).2]; exact hl16
    have E3 : ENq (wF (wF (wI M (fR M 3 8 + 3) ls.length (hdT s.1).2.2.2) (fR M 3 8) 11 (hdT s.1).2.2.2) 3 10 (tdS ls ||| ((1 : Int32) <<< ((3 : Int32) &&& 31)))) (fR M 3 8) ls.length 3 m (hdT s.1).2.2.2 fr := ⟨by rw [rN_wF, rN_wF, rN_wI_ne (fun q => by omega)]; exact hE.1, by rw [rN_wF, rN_wF, rN_wI_ne (fun q => by omega)]; exact hE.2.1, by rw [rN_wF, rN_wF, rN_wI_eq hlen], by rw [rN_wF, rN_wF, rN_wI_ne (fun q => by omega)]; exact hE.2.2.2⟩
    have Q3 : FTq (wF (wF (wI M (fR M 3 8 + 3) ls.length (hdT s.1).2.2.2) (fR M 3 8) 11 (hdT s.1).2.2.2) 3 10 (tdS ls ||| ((1 : Int32) <<< ((3 : Int32) &&& 31)))) (fR M 3 8) (ls ++ [(3, m, (hdT s.1).2.2.2, fr, 0)]) := ⟨by rw [fI_wF_ne (fun q => by omega), fI_wF_ne (fun q => by omega), fI_wI, tv_app2 (by exact (by decide : (3 : Int32) ≠ 2))]; exact hF.1, by rw [fI_wF_ne (fun q => by omega), fI_wF_eq hC.1.ki.1 ht qi_28_11, tv_app hk]; rfl, by rw [fI_wF_ne (fun q => by omega), fI_wF_ne (fun q => by omega), fI_wI, tv_app2 (by exact (by decide : (3 : Int32) ≠ 4))]; exact hF.2.2.1, by rw [fI_wF_ne (fun q => by omega), fI_wF_ne (fun q => by omega), fI_wI, tv_app2 (by exact (by decide : (3 : Int32) ≠ 7))]; exact hF.2.2.2.1, by rw [fI_wF_eq hC.1.ki.kf.1 qa_3 qi_3_10, tdS_app]; exact (tdk3 _ _ _ _).symm⟩
    have C3 : CSt B n (fR M 3 8) (wF (wF (wI M (fR M 3 8 + 3) ls.length (hdT s.1).2.2.2) (fR M 3 8) 11 (hdT s.1).2.2.2) 3 10 (tdS ls ||| ((1 : Int32) <<< ((3 : Int32) &&& 31)))) s := hC.frm S3 F1 (fun q hq r => by
      simp only [List.mem_cons, List.not_mem_nil, or_false] at hq r
      rcases hq with rfl | rfl | rfl | rfl | rfl | rfl | rfl <;> simp only [Prod.mk.injEq] at r <;> omega) (fun b hb r => by
      simp only [List.mem_cons, List.not_mem_nil, or_false] at hb r
      omega)
    obtain ⟨rfl, F4, C4⟩ := C3.go ht (by rw [g1]; decide) (by rw [g1]; decide) H1
    obtain ⟨r1, rfl⟩ := nb3_217 C4.1 (by rw [F4.fr (by simp [fP]), F1.fr (by simp)]; exact ht) H
    obtain ⟨p1, p2, p3, p4⟩ := fP_no hb.1
    refine ⟨(F1.more (fun q hq => ?_) (fun q hq => ?_)).trans F4.ln, Or.inr (Or.inr ⟨g1, ?_, r1, C4, L3.frm F4 p2 p3, E3.frm F4 p4, Q3.frm F4 p1⟩)⟩
    · simp only [fLq, List.mem_cons, List.not_mem_nil, or_false] at hq ⊢
      rcases hq with h | h <;> simp [h]
    · simp only [wLn, List.mem_cons, List.not_mem_nil, or_false] at hq ⊢
      simp [hq]
    · rw [hmo]
      rintro (q | q)
      · exact g2 q
      · exact absurd q.1 (by decide)
  · rw [c5] at g1
    obtain ⟨f1, f2⟩ := hC.err (v := v) (M' := M') H1 (fun y hy S => by subst hy; exact nb3_13 S (by rw [(hC.fail H1).1.fr (by simp [fP])]; exact ht) H)
    exact ⟨f1.ln, Or.inl ⟨g1, f2⟩⟩
theorem tdk4 : ∀ a b c d : Bool, tdB (a || decide ((4 : Int32) = 2)) (b || decide ((4 : Int32) = 3)) (c || decide ((4 : Int32) = 4)) (d || decide ((4 : Int32) = 7)) = tdB a b c d ||| ((1 : Int32) <<< ((4 : Int32) &&& 31)) := by decide
theorem nu4_ok {e : Nat} {v : Option Value} {i m : Int32} {fr : Nat} (ht : gNth sT t = some 28) (hP : PRE B n t M s ls 4 m fr) (hi : i.toInt = (ls.length : Int)) (hk : hasK ls 4 = false) (H : Ev none e 35 0 [some (.ref 3), some (.int i), some (.int 4), none, none, none] [] M v M' 0 0) : FA (fLq t) (wLn t) M M' ∧ NUr B n t M' v s ls 4 m fr := by
  obtain ⟨hC, hL, hE, hF, hl16⟩ := hP
  have hb := tx_ge ht
  obtain ⟨c1, c2, c3, c4, c5, c6, c7⟩ := hC.2.2.1.at
  have h8 := hC.2.2.2.2.2.1
  subst h8
  have hix : i.toNatClampNeg = ls.length := cl_n hi
  have hmo : mostS 4 = 999 := by decide
  rcases nb4_0 hC.1 ht H with ⟨g1, g2, -, e1, v1, M1, rfl, H1, H⟩ | ⟨g1, g2, -, -, e1, v1, M1, rfl, H1, H⟩ | ⟨g1, e1, v1, M1, rfl, H1, H⟩
  · rw [c5] at g1
    rw [c4 g1] at g2
    obtain ⟨f1, f2⟩ := hC.err (v := v) (M' := M') H1 (fun y hy S => by subst hy; exact nb4_71 S (by rw [(hC.fail H1).1.fr (by simp [fP])]; exact ht) H)
    exact ⟨f1.ln, Or.inr (Or.inl ⟨g1, Or.inl (by rw [hmo]; exact g2), f2⟩)⟩
  · rw [c5] at g1
    rw [c4 g1] at g2 H1 H
    rw [hix] at H1
    have hrd : zI M 3 10 = tdS ls := by
      exact hF.2.2.2.2
    rw [hrd] at H1
    have F1 : FA [(fR M 3 8, 12), (3, 10)] [fR M 3 8 + 3] M (wF (wF (wI M (fR M 3 8 + 3) ls.length (hdT s.1).2.2.2) (fR M 3 8) 12 (hdT s.1).2.2.2) 3 10 (tdS ls ||| ((1 : Int32) <<< ((4 : Int32) &&& 31)))) := ((FA.wI (by simp)).trans (FA.wF (by simp))).trans (FA.wF (by simp))
    have S3 : SQ (wF (wF (wI M (fR M 3 8 + 3) ls.length (hdT s.1).2.2.2) (fR M 3 8) 12 (hdT s.1).2.2.2) 3 10 (tdS ls ||| ((1 : Int32) <<< ((4 : Int32) &&& 31)))) := hC.1.ki.kf.kf
    have L3 : LCt (wF (wF (wI M (fR M 3 8 + 3) ls.length (hdT s.1).2.2.2) (fR M 3 8) 12 (hdT s.1).2.2.2) 3 10 (tdS ls ||| ((1 : Int32) <<< ((4 : Int32) &&& 31)))) (fR M 3 8) ls := (hL.ui.uf (by decide)).uf (by decide)
    have hlen : ls.length < (zrw M (fR M 3 8 + 3)).length := by rw [(hC.1.1.row (fx_g2 ht) qw_31).2]; exact hl16
    have E3 : ENq (wF (wF (wI M (fR M 3 8 + 3) ls.length (hdT s.1).2.2.2) (fR M 3 8) 12 (hdT s.1).2.2.2) 3 10 (tdS ls ||| ((1 : Int32) <<< ((4 : Int32) &&& 31)))) (fR M 3 8) ls.length 4 m (hdT s.1).2.2.2 fr := ⟨by rw [rN_wF, rN_wF, rN_wI_ne (fun q => by omega)]; exact hE.1, by rw [rN_wF, rN_wF, rN_wI_ne (fun q => by omega)]; exact hE.2.1, by rw [rN_wF, rN_wF, rN_wI_eq hlen], by rw [rN_wF, rN_wF, rN_wI_ne (fun q => by omega)]; exact hE.2.2.2⟩
    have Q3 : FTq (wF (wF (wI M (fR M 3 8 + 3) ls.length (hdT s.1).2.2.2) (fR M 3 8) 12 (hdT s.1).2.2.2) 3 10 (tdS ls ||| ((1 : Int32) <<< ((4 : Int32) &&& 31)))) (fR M 3 8) (ls ++ [(4, m, (hdT s.1).2.2.2, fr, 0)]) := ⟨by rw [fI_wF_ne (fun q => by omega), fI_wF_ne (fun q => by omega), fI_wI, tv_app2 (by exact (by decide : (4 : Int32) ≠ 2))]; exact hF.1, by rw [fI_wF_ne (fun q => by omega), fI_wF_ne (fun q => by omega), fI_wI, tv_app2 (by exact (by decide : (4 : Int32) ≠ 3))]; exact hF.2.1, by rw [fI_wF_ne (fun q => by omega), fI_wF_eq hC.1.ki.1 ht qi_28_12, tv_app hk]; rfl, by rw [fI_wF_ne (fun q => by omega), fI_wF_ne (fun q => by omega), fI_wI, tv_app2 (by exact (by decide : (4 : Int32) ≠ 7))]; exact hF.2.2.2.1, by rw [fI_wF_eq hC.1.ki.kf.1 qa_3 qi_3_10, tdS_app]; exact (tdk4 _ _ _ _).symm⟩
    have C3 : CSt B n (fR M 3 8) (wF (wF (wI M (fR M 3 8 + 3) ls.length (hdT s.1).2.2.2) (fR M 3 8) 12 (hdT s.1).2.2.2) 3 10 (tdS ls ||| ((1 : Int32) <<< ((4 : Int32) &&& 31)))) s := hC.frm S3 F1 (fun q hq r => by
      simp only [List.mem_cons, List.not_mem_nil, or_false] at hq r
      rcases hq with rfl | rfl | rfl | rfl | rfl | rfl | rfl <;> simp only [Prod.mk.injEq] at r <;> omega) (fun b hb r => by
      simp only [List.mem_cons, List.not_mem_nil, or_false] at hb r
      omega)
    obtain ⟨rfl, F4, C4⟩ := C3.go ht (by rw [g1]; decide) (by rw [g1]; decide) H1
    obtain ⟨r1, rfl⟩ := nb4_217 C4.1 (by rw [F4.fr (by simp [fP]), F1.fr (by simp)]; exact ht) H
    obtain ⟨p1, p2, p3, p4⟩ := fP_no hb.1
    refine ⟨(F1.more (fun q hq => ?_) (fun q hq => ?_)).trans F4.ln, Or.inr (Or.inr ⟨g1, ?_, r1, C4, L3.frm F4 p2 p3, E3.frm F4 p4, Q3.frm F4 p1⟩)⟩
    · simp only [fLq, List.mem_cons, List.not_mem_nil, or_false] at hq ⊢
      rcases hq with h | h <;> simp [h]
    · simp only [wLn, List.mem_cons, List.not_mem_nil, or_false] at hq ⊢
      simp [hq]
    · rw [hmo]
      rintro (q | q)
      · exact g2 q
      · exact absurd q.1 (by decide)
  · rw [c5] at g1
    obtain ⟨f1, f2⟩ := hC.err (v := v) (M' := M') H1 (fun y hy S => by subst hy; exact nb4_13 S (by rw [(hC.fail H1).1.fr (by simp [fP])]; exact ht) H)
    exact ⟨f1.ln, Or.inl ⟨g1, f2⟩⟩
theorem tdk5 : ∀ a b c d : Bool, tdB (a || decide ((5 : Int32) = 2)) (b || decide ((5 : Int32) = 3)) (c || decide ((5 : Int32) = 4)) (d || decide ((5 : Int32) = 7)) = tdB a b c d ||| 0 := by decide
theorem nu5_ok {e : Nat} {v : Option Value} {i m : Int32} {fr : Nat} (ht : gNth sT t = some 28) (hP : PRE B n t M s ls 5 m fr) (hi : i.toInt = (ls.length : Int)) (H : Ev none e 35 0 [some (.ref 3), some (.int i), some (.int 5), none, none, none] [] M v M' 0 0) : FA (fLq t) (wLn t) M M' ∧ NUr B n t M' v s ls 5 m fr := by
  obtain ⟨hC, hL, hE, hF, hl16⟩ := hP
  have hb := tx_ge ht
  obtain ⟨c1, c2, c3, c4, c5, c6, c7⟩ := hC.2.2.1.at
  have h8 := hC.2.2.2.2.2.1
  subst h8
  have hix : i.toNatClampNeg = ls.length := cl_n hi
  have hmo : mostS 5 = 99 := by decide
  rcases nb5_0 hC.1 ht H with ⟨g1, g2, -, e1, v1, M1, rfl, H1, H⟩ | ⟨g1, g2, -, -, e1, v1, M1, rfl, H1, H⟩ | ⟨g1, e1, v1, M1, rfl, H1, H⟩
  · rw [c5] at g1
    rw [c4 g1] at g2
    obtain ⟨f1, f2⟩ := hC.err (v := v) (M' := M') H1 (fun y hy S => by subst hy; exact nb5_71 S (by rw [(hC.fail H1).1.fr (by simp [fP])]; exact ht) H)
    exact ⟨f1.ln, Or.inr (Or.inl ⟨g1, Or.inl (by rw [hmo]; exact g2), f2⟩)⟩
  · rw [c5] at g1
    rw [c4 g1] at g2 H1 H
    rw [hix] at H1
    have hrd : zI M 3 10 = tdS ls := hF.2.2.2.2
    rw [hrd] at H1
    have F1 : FA [(3, 10)] [fR M 3 8 + 3] M (wF (wI M (fR M 3 8 + 3) ls.length (hdT s.1).2.2.2) 3 10 (tdS ls ||| 0)) := (FA.wI (by simp)).trans (FA.wF (by simp))
    have S3 : SQ (wF (wI M (fR M 3 8 + 3) ls.length (hdT s.1).2.2.2) 3 10 (tdS ls ||| 0)) := hC.1.ki.kf
    have L3 : LCt (wF (wI M (fR M 3 8 + 3) ls.length (hdT s.1).2.2.2) 3 10 (tdS ls ||| 0)) (fR M 3 8) ls := hL.ui.uf (by decide)
    have hlen : ls.length < (zrw M (fR M 3 8 + 3)).length := by rw [(hC.1.1.row (fx_g2 ht) qw_31).2]; exact hl16
    have E3 : ENq (wF (wI M (fR M 3 8 + 3) ls.length (hdT s.1).2.2.2) 3 10 (tdS ls ||| 0)) (fR M 3 8) ls.length 5 m (hdT s.1).2.2.2 fr := ⟨by rw [rN_wF, rN_wI_ne (fun q => by omega)]; exact hE.1, by rw [rN_wF, rN_wI_ne (fun q => by omega)]; exact hE.2.1, by rw [rN_wF, rN_wI_eq hlen], by rw [rN_wF, rN_wI_ne (fun q => by omega)]; exact hE.2.2.2⟩
    have Q3 : FTq (wF (wI M (fR M 3 8 + 3) ls.length (hdT s.1).2.2.2) 3 10 (tdS ls ||| 0)) (fR M 3 8) (ls ++ [(5, m, (hdT s.1).2.2.2, fr, 0)]) := ⟨by rw [fI_wF_ne (fun q => by omega), fI_wI, tv_app2 (by exact (by decide : (5 : Int32) ≠ 2))]; exact hF.1, by rw [fI_wF_ne (fun q => by omega), fI_wI, tv_app2 (by exact (by decide : (5 : Int32) ≠ 3))]; exact hF.2.1, by rw [fI_wF_ne (fun q => by omega), fI_wI, tv_app2 (by exact (by decide : (5 : Int32) ≠ 4))]; exact hF.2.2.1, by rw [fI_wF_ne (fun q => by omega), fI_wI, tv_app2 (by exact (by decide : (5 : Int32) ≠ 7))]; exact hF.2.2.2.1, by rw [fI_wF_eq hC.1.ki.1 qa_3 qi_3_10, tdS_app]; exact (tdk5 _ _ _ _).symm⟩
    have C3 : CSt B n (fR M 3 8) (wF (wI M (fR M 3 8 + 3) ls.length (hdT s.1).2.2.2) 3 10 (tdS ls ||| 0)) s := hC.frm S3 F1 (fun q hq r => by
      simp only [List.mem_cons, List.not_mem_nil, or_false] at hq r
      rcases hq with rfl | rfl | rfl | rfl | rfl | rfl | rfl <;> simp only [Prod.mk.injEq] at r <;> omega) (fun b hb r => by
      simp only [List.mem_cons, List.not_mem_nil, or_false] at hb r
      omega)
    obtain ⟨rfl, F4, C4⟩ := C3.go ht (by rw [g1]; decide) (by rw [g1]; decide) H1
    obtain ⟨r1, rfl⟩ := nb5_217 C4.1 (by rw [F4.fr (by simp [fP]), F1.fr (by simp)]; exact ht) H
    obtain ⟨p1, p2, p3, p4⟩ := fP_no hb.1
    refine ⟨(F1.more (fun q hq => ?_) (fun q hq => ?_)).trans F4.ln, Or.inr (Or.inr ⟨g1, ?_, r1, C4, L3.frm F4 p2 p3, E3.frm F4 p4, Q3.frm F4 p1⟩)⟩
    · simp only [fLq, List.mem_cons, List.not_mem_nil, or_false] at hq ⊢
      simp [hq]
    · simp only [wLn, List.mem_cons, List.not_mem_nil, or_false] at hq ⊢
      simp [hq]
    · rw [hmo]
      rintro (q | q)
      · exact g2 q
      · exact absurd q.1 (by decide)
  · rw [c5] at g1
    obtain ⟨f1, f2⟩ := hC.err (v := v) (M' := M') H1 (fun y hy S => by subst hy; exact nb5_13 S (by rw [(hC.fail H1).1.fr (by simp [fP])]; exact ht) H)
    exact ⟨f1.ln, Or.inl ⟨g1, f2⟩⟩
theorem tdk7 : ∀ a b c d : Bool, tdB (a || decide ((7 : Int32) = 2)) (b || decide ((7 : Int32) = 3)) (c || decide ((7 : Int32) = 4)) (d || decide ((7 : Int32) = 7)) = tdB a b c d ||| ((1 : Int32) <<< ((7 : Int32) &&& 31)) := by decide
theorem nu7_ok {e : Nat} {v : Option Value} {i m : Int32} {fr : Nat} (ht : gNth sT t = some 28) (hP : PRE B n t M s ls 7 m fr) (hi : i.toInt = (ls.length : Int)) (hk : hasK ls 7 = false) (H : Ev none e 35 0 [some (.ref 3), some (.int i), some (.int 7), none, none, none] [] M v M' 0 0) : FA (fLq t) (wLn t) M M' ∧ NUr B n t M' v s ls 7 m fr := by
  obtain ⟨hC, hL, hE, hF, hl16⟩ := hP
  have hb := tx_ge ht
  obtain ⟨c1, c2, c3, c4, c5, c6, c7⟩ := hC.2.2.1.at
  have h8 := hC.2.2.2.2.2.1
  subst h8
  have hix : i.toNatClampNeg = ls.length := cl_n hi
  have hmo : mostS 7 = 9 := by decide
  rcases nb7_0 hC.1 ht H with ⟨g1, g2, -, e1, v1, M1, rfl, H1, H⟩ | ⟨g1, g2, -, -, e1, v1, M1, rfl, H1, H⟩ | ⟨g1, e1, v1, M1, rfl, H1, H⟩
  · rw [c5] at g1
    rw [c4 g1] at g2
    obtain ⟨f1, f2⟩ := hC.err (v := v) (M' := M') H1 (fun y hy S => by subst hy; exact nb7_71 S (by rw [(hC.fail H1).1.fr (by simp [fP])]; exact ht) H)
    exact ⟨f1.ln, Or.inr (Or.inl ⟨g1, Or.inl (by rw [hmo]; exact g2), f2⟩)⟩
  · rw [c5] at g1
    rw [c4 g1] at g2 H1 H
    rw [hix] at H1
    have hrd : zI M 3 10 = tdS ls := by
      exact hF.2.2.2.2
    rw [hrd] at H1
    have F1 : FA [(fR M 3 8, 13), (3, 10)] [fR M 3 8 + 3] M (wF (wF (wI M (fR M 3 8 + 3) ls.length (hdT s.1).2.2.2) (fR M 3 8) 13 (hdT s.1).2.2.2) 3 10 (tdS ls ||| ((1 : Int32) <<< ((7 : Int32) &&& 31)))) := ((FA.wI (by simp)).trans (FA.wF (by simp))).trans (FA.wF (by simp))
    have S3 : SQ (wF (wF (wI M (fR M 3 8 + 3) ls.length (hdT s.1).2.2.2) (fR M 3 8) 13 (hdT s.1).2.2.2) 3 10 (tdS ls ||| ((1 : Int32) <<< ((7 : Int32) &&& 31)))) := hC.1.ki.kf.kf
    have L3 : LCt (wF (wF (wI M (fR M 3 8 + 3) ls.length (hdT s.1).2.2.2) (fR M 3 8) 13 (hdT s.1).2.2.2) 3 10 (tdS ls ||| ((1 : Int32) <<< ((7 : Int32) &&& 31)))) (fR M 3 8) ls := (hL.ui.uf (by decide)).uf (by decide)
    have hlen : ls.length < (zrw M (fR M 3 8 + 3)).length := by rw [(hC.1.1.row (fx_g2 ht) qw_31).2]; exact hl16
    have E3 : ENq (wF (wF (wI M (fR M 3 8 + 3) ls.length (hdT s.1).2.2.2) (fR M 3 8) 13 (hdT s.1).2.2.2) 3 10 (tdS ls ||| ((1 : Int32) <<< ((7 : Int32) &&& 31)))) (fR M 3 8) ls.length 7 m (hdT s.1).2.2.2 fr := ⟨by rw [rN_wF, rN_wF, rN_wI_ne (fun q => by omega)]; exact hE.1, by rw [rN_wF, rN_wF, rN_wI_ne (fun q => by omega)]; exact hE.2.1, by rw [rN_wF, rN_wF, rN_wI_eq hlen], by rw [rN_wF, rN_wF, rN_wI_ne (fun q => by omega)]; exact hE.2.2.2⟩
    have Q3 : FTq (wF (wF (wI M (fR M 3 8 + 3) ls.length (hdT s.1).2.2.2) (fR M 3 8) 13 (hdT s.1).2.2.2) 3 10 (tdS ls ||| ((1 : Int32) <<< ((7 : Int32) &&& 31)))) (fR M 3 8) (ls ++ [(7, m, (hdT s.1).2.2.2, fr, 0)]) := ⟨by rw [fI_wF_ne (fun q => by omega), fI_wF_ne (fun q => by omega), fI_wI, tv_app2 (by exact (by decide : (7 : Int32) ≠ 2))]; exact hF.1, by rw [fI_wF_ne (fun q => by omega), fI_wF_ne (fun q => by omega), fI_wI, tv_app2 (by exact (by decide : (7 : Int32) ≠ 3))]; exact hF.2.1, by rw [fI_wF_ne (fun q => by omega), fI_wF_ne (fun q => by omega), fI_wI, tv_app2 (by exact (by decide : (7 : Int32) ≠ 4))]; exact hF.2.2.1, by rw [fI_wF_ne (fun q => by omega), fI_wF_eq hC.1.ki.1 ht qi_28_13, tv_app hk]; rfl, by rw [fI_wF_eq hC.1.ki.kf.1 qa_3 qi_3_10, tdS_app]; exact (tdk7 _ _ _ _).symm⟩
    have C3 : CSt B n (fR M 3 8) (wF (wF (wI M (fR M 3 8 + 3) ls.length (hdT s.1).2.2.2) (fR M 3 8) 13 (hdT s.1).2.2.2) 3 10 (tdS ls ||| ((1 : Int32) <<< ((7 : Int32) &&& 31)))) s := hC.frm S3 F1 (fun q hq r => by
      simp only [List.mem_cons, List.not_mem_nil, or_false] at hq r
      rcases hq with rfl | rfl | rfl | rfl | rfl | rfl | rfl <;> simp only [Prod.mk.injEq] at r <;> omega) (fun b hb r => by
      simp only [List.mem_cons, List.not_mem_nil, or_false] at hb r
      omega)
    obtain ⟨rfl, F4, C4⟩ := C3.go ht (by rw [g1]; decide) (by rw [g1]; decide) H1
    obtain ⟨r1, rfl⟩ := nb7_217 C4.1 (by rw [F4.fr (by simp [fP]), F1.fr (by simp)]; exact ht) H
    obtain ⟨p1, p2, p3, p4⟩ := fP_no hb.1
    refine ⟨(F1.more (fun q hq => ?_) (fun q hq => ?_)).trans F4.ln, Or.inr (Or.inr ⟨g1, ?_, r1, C4, L3.frm F4 p2 p3, E3.frm F4 p4, Q3.frm F4 p1⟩)⟩
    · simp only [fLq, List.mem_cons, List.not_mem_nil, or_false] at hq ⊢
      rcases hq with h | h <;> simp [h]
    · simp only [wLn, List.mem_cons, List.not_mem_nil, or_false] at hq ⊢
      simp [hq]
    · rw [hmo]
      rintro (q | q)
      · exact g2 q
      · exact absurd q.1 (by decide)
  · rw [c5] at g1
    obtain ⟨f1, f2⟩ := hC.err (v := v) (M' := M') H1 (fun y hy S => by subst hy; exact nb7_13 S (by rw [(hC.fail H1).1.fr (by simp [fP])]; exact ht) H)
    exact ⟨f1.ln, Or.inl ⟨g1, f2⟩⟩
theorem tdk6 : ∀ a b c d : Bool, tdB (a || decide ((6 : Int32) = 2)) (b || decide ((6 : Int32) = 3)) (c || decide ((6 : Int32) = 4)) (d || decide ((6 : Int32) = 7)) = tdB a b c d ||| 0 := by decide
end NUM
