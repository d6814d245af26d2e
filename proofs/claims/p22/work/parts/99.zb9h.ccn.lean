/-! THE CLASS'S cond, all, one: exactly -/
/-- the class's step for a step -/
noncomputable def cM (c : Cdq) : Int32 × Int32 × Int32 :=
  if c.1 = 20 then (8, 0, 0) else if c.1 = 21 then (9, 0, 0) else if c.1 = 22 then (10, 0, 0)
  else if c.1 < 8 then (sI 3 c.1, sI 4 c.1, sI 4 c.1)
  else if c.2.1 = 60 then (sI 3 c.1, 0, c.2.2 - 1) else if c.2.1 = 61 then (sI 3 c.1, c.2.2, c.2.2) else (sI 3 c.1, c.2.2 + 1, 2147483647)
/-- the steps that a text holds -/
def CC (M : Mem) (t : Nat) (cs : List Cdq) : Prop := (zI M t 9).toInt = (cs.length : Int) ∧ cs.length ≤ 96 ∧ ∀ j c, cs[j]? = some c → rN M (t + 6) j = (cM c).1 ∧ rN M (t + 7) j = (cM c).2.1 ∧ rN M (t + 8) j = (cM c).2.2
/-- the reader in the midst of a text t -/
def CSt (B : Nat → Int32) (n t : Nat) (M : Mem) (s : Sg) : Prop := SQ M ∧ (∀ k, k < n → bC M k = B k) ∧ CTk n M s.1 ∧ (zI M 3 11).toInt = (s.2.1 : Int) ∧ s.2.1 ≤ 40 ∧ fR M 3 8 = t ∧ CC M t s.2.2 ∧ s.2.2.length ≤ 2 * s.2.1 ∧ zI M 3 12 = 0
def fP (t : Nat) : List (Nat × Nat) := [(3, 6), (3, 7), (3, 11), (3, 12), (3, 13), (t, 9)]
def wP (t : Nat) : List Nat := [t + 6, t + 7, t + 8]
def RSt (B : Nat → Int32) (n t : Nat) (M' : Mem) (v : Option Value) (r : PR) : Prop := match r with
  | .inl s => v = some (.int 1) ∧ CSt B n t M' s
  | .inr f => v = some (.int 0) ∧ SQ M' ∧ zI M' 3 12 = f.1 ∧ (zI M' 3 13).toInt = (f.2 : Int)
theorem RS_err {B : Nat → Int32} {n t : Nat} {M' : Mem} {v : Option Value} {f : Int32 × Nat} (h : RSt B n t M' v (.inr f)) : v = some (.int 0) ∧ SQ M' ∧ zI M' 3 12 = f.1 ∧ (zI M' 3 13).toInt = (f.2 : Int) := h
theorem RS_ok {B : Nat → Int32} {n t : Nat} {M' : Mem} {v : Option Value} {s : Sg} (h : RSt B n t M' v (.inl s)) : v = some (.int 1) ∧ CSt B n t M' s := h
set_option maxRecDepth 100000 in
theorem tx_110 : ∀ t ∈ fxT, 110 ≤ t ∧ t ≤ 183 := by decide
section CCN
variable {e n t : Nat} {M M' : Mem} {v : Option Value} {ts : List Tok} {B : Nat → Int32}
theorem tx_ge (ht : gNth sT t = some 28) : 110 ≤ t ∧ t ≤ 183 := tx_110 t (tx_mem ht)
theorem CC.frm {cs : List Cdq} {F : List (Nat × Nat)} {W : List Nat} (h : CC M t cs) (hF : FA F W M M') (h1 : (t, 9) ∉ F) (h2 : t + 6 ∉ W) (h3 : t + 7 ∉ W) (h4 : t + 8 ∉ W) : CC M' t cs := by
  refine ⟨by rw [hF.fi h1]; exact h.1, h.2.1, fun j c hj => ?_⟩
  rw [hF.rn h2, hF.rn h3, hF.rn h4]
  exact h.2.2 j c hj
theorem go_ok (hS : SQ M) (hT : CTk n M ts) (h0 : (hdT ts).1 ≠ 0) (h1 : (hdT ts).1 ≠ 1) (H : Ev none e 31 0 [some (.ref 3)] [] M v M' 0 0) : v = none ∧ SQ M' ∧ FA [(3, 6), (3, 7)] [] M M' ∧ CTk n M' ts.tail := by
  obtain ⟨g1, g2⟩ := g_31 hS H
  obtain ⟨TL, k, a1, a2, a3, a4, a5, a6, a7, a8⟩ := hT
  have hw := a2.tl h0 h1
  obtain ⟨r, hr⟩ := a2.ne
  obtain ⟨r2, hr2⟩ := hw.ne
  have htl : ts.tail = TL.drop (k + 1) := by rw [a1, List.tail_drop]
  have hlen : k + 1 < TL.length := by
    have h2 := congrArg List.length htl
    rw [hr2, List.length_cons, List.length_drop] at h2
    omega
  have o1 : (1 : Int32).toInt = 1 := rfl
  have e1 : (zI M 3 5 - 1).toInt = (zI M 3 5).toInt - 1 := i32_m1 (by omega)
  have hk1 : (zI M 3 6 + 1).toInt = ((k + 1 : Nat) : Int) := by rw [i32_p1 (by omega)]; omega
  have hX : X_31 M = wF (wF M 3 6 (zI M 3 6 + 1)) 3 7 (rI M 4 (zI M 3 6 + 1)) := by
    unfold X_31
    rw [if_neg (fun q => by have := Int32.le_iff_toInt_le.mp q; omega)]
  rw [hX] at g2
  have F1 : FA [(3, 6), (3, 7)] [] M M' := by
    rw [g2]
    exact (FA.wF (by decide)).trans (FA.wF (by decide))
  have S1 : SQ M' := by
    rw [g2]
    exact hS.kf.kf
  refine ⟨g1, S1, F1, TL, k + 1, htl, hw, fun t ht => a3 t (List.mem_of_mem_tail ht), ?_, by rw [F1.fi (by decide)]; exact a5, a6, fun j t hj => ?_, ?_⟩
  · rw [g2, fI_wF_ne (fun q => absurd q.2 (by decide)), fI_wF_eq hS.1 qa_3 qi_3_6]
    exact hk1
  · rw [F1.rn (by decide), F1.rn (by decide), F1.rn (by decide), F1.rn (by decide)]
    exact a7 j t hj
  · rw [g2, fI_wF_eq hS.kf.1 qa_3 qi_3_7, rI_n hk1]
    have hk : TL[k + 1]? = some (hdT ts.tail) := by
      have h1 : (TL.drop (k + 1))[0]? = some (hdT ts.tail) := by
        rw [← htl, hr2]
        rfl
      rw [List.getElem?_drop] at h1
      exact h1
    have h9 := (a7 (k + 1) _ hk).1
    rw [Nat.zero_add] at h9
    exact h9
theorem fail_ok {k : Int32} (hS : SQ M) (hT : CTk n M ts) (H : Ev none e 27 0 [some (.ref 3), some (.int k)] [] M v M' 0 0) : v = some (.int 0) ∧ SQ M' ∧ FA [(3, 12), (3, 13)] [] M M' ∧ zI M' 3 12 = k ∧ (zI M' 3 13).toInt = ((hdT ts).2.1 : Int) := by
  obtain ⟨g1, g2⟩ := g_27 hS H
  have c2 := hT.at.2.1
  have S1 : SQ M' := by
    rw [g2]
    exact X_27_sx hS
  unfold X_27 at g2
  refine ⟨g1, S1, ?_, ?_, ?_⟩
  · rw [g2]
    exact (FA.wF (by decide)).trans (FA.wF (by decide))
  · rw [g2, fI_wF_ne (fun q => absurd q.2 (by decide)), fI_wF_eq hS.1 qa_3 qi_3_12]
  · rw [g2, fI_wF_eq hS.kf.1 qa_3 qi_3_13]
    exact c2
theorem emit_ok {cs : List Cdq} {c : Cdq} {x y z : Int32} (hS : SQ M) (ht : gNth sT t = some 28) (hr : fR M 3 8 = t) (hC : CC M t cs) (hl : cs.length < 96) (hc : (x, y, z) = cM c) (H : Ev none e 40 0 [some (.ref 3), some (.int x), some (.int y), some (.int z)] [] M v M' 0 0) : v = none ∧ SQ M' ∧ FA [(t, 9)] (wP t) M M' ∧ CC M' t (cs ++ [c]) := by
  subst hr
  obtain ⟨g1, g2⟩ := g_40 hS ht H
  have S1 : SQ M' := by
    rw [g2]
    exact X_40_sx hS
  obtain ⟨a1, a2, a3⟩ := hC
  have o96 : (96 : Int32).toInt = 96 := rfl
  have hk : (zI M (fR M 3 8) 9).toNatClampNeg = cs.length := cl_n a1
  unfold X_40 at g2
  rw [if_neg (fun q => by have := Int32.le_iff_toInt_le.mp q; omega), hk] at g2
  have s1 : SQ (wI M (fR M 3 8 + 6) cs.length x) := hS.ki
  have s2 : SQ (wI (wI M (fR M 3 8 + 6) cs.length x) (fR M 3 8 + 7) cs.length y) := s1.ki
  have s3 : SQ (wI (wI (wI M (fR M 3 8 + 6) cs.length x) (fR M 3 8 + 7) cs.length y) (fR M 3 8 + 8) cs.length z) := s2.ki
  refine ⟨g1, S1, ?_, ?_, ?_, fun j c2 hj => ?_⟩
  · rw [g2]
    exact (((FA.wI (List.mem_cons_self)).trans (FA.wI (List.mem_cons_of_mem _ List.mem_cons_self))).trans (FA.wI (List.mem_cons_of_mem _ (List.mem_cons_of_mem _ List.mem_cons_self)))).trans (FA.wF List.mem_cons_self)
  · rw [g2, fI_wF_eq s3.1 ht qi_28_9, i32_p1 (by omega), List.length_append]
    show _ = ((cs.length + 1 : Nat) : Int)
    omega
  · rw [List.length_append]
    show cs.length + 1 ≤ 96
    omega
  · rw [g2, rN_wF, rN_wF, rN_wF]
    by_cases hj2 : j = cs.length
    · subst hj2
      rw [List.getElem?_append_right (Nat.le_refl _), Nat.sub_self] at hj
      cases hj
      rw [← hc]
      refine ⟨?_, ?_, ?_⟩
      · rw [rN_wI_ne (fun q => by omega), rN_wI_ne (fun q => by omega), rN_wI_eq (by rw [(hS.1.row (fx_g5 ht) qw_34).2]; omega)]
      · rw [rN_wI_ne (fun q => by omega), rN_wI_eq (by rw [(s1.1.row (fx_g6 ht) qw_35).2]; omega)]
      · rw [rN_wI_eq (by rw [(s2.1.row (fx_g7 ht) qw_36).2]; omega)]
    · have hlt : j < cs.length := by
        have h1 := (List.getElem?_eq_some_iff.mp hj).1
        rw [List.length_append] at h1
        have h1 : j < cs.length + 1 := h1
        omega
      rw [List.getElem?_append_left hlt] at hj
      rw [rN_wI_ne (fun q => hj2 q.2), rN_wI_ne (fun q => hj2 q.2), rN_wI_ne (fun q => hj2 q.2), rN_wI_ne (fun q => hj2 q.2), rN_wI_ne (fun q => hj2 q.2), rN_wI_ne (fun q => hj2 q.2), rN_wI_ne (fun q => hj2 q.2), rN_wI_ne (fun q => hj2 q.2), rN_wI_ne (fun q => hj2 q.2)]
      exact a3 j c2 hj
/-! the state moves -/
theorem CSt.wd {s : Sg} (h : CSt B n t M s) : wdS (bC M) (hdT s.1) = wdS B (hdT s.1) := by
  obtain ⟨TL, k, a1, a2, a3, a4⟩ := h.2.2.1
  obtain ⟨r, hr⟩ := a2.ne
  have hb := a3 (hdT s.1) (by rw [hr]; exact List.mem_cons_self)
  unfold wdS
  split
  · unfold slS
    refine List.map_congr_left (fun i hi => h.2.1 _ ?_)
    have := List.mem_range.mp hi
    omega
  · rfl
theorem CSt.go {s : Sg} (h : CSt B n t M s) (ht : gNth sT t = some 28) (h0 : (hdT s.1).1 ≠ 0) (h1 : (hdT s.1).1 ≠ 1) (H : Ev none e 31 0 [some (.ref 3)] [] M v M' 0 0) : v = none ∧ FA (fP t) (wP t) M M' ∧ CSt B n t M' (s.1.tail, s.2.1, s.2.2) := by
  obtain ⟨a1, a2, a3, a4, a5, a6, a7, a8, a9⟩ := h
  obtain ⟨g1, g2, g3, g4⟩ := go_ok a1 a3 h0 h1 H
  have hb := tx_ge ht
  refine ⟨g1, g3.more (fun q hq => ?_) (fun q hq => by cases hq), g2, ?_, g4, by rw [g3.fi (by decide)]; exact a4, a5, by rw [g3.fr (by decide)]; exact a6, a7.frm g3 ?_ List.not_mem_nil List.not_mem_nil List.not_mem_nil, a8, by rw [g3.fi (by decide)]; exact a9⟩
  · rcases List.mem_cons.mp hq with rfl | hq
    · exact List.mem_cons_self
    · rw [List.mem_singleton.mp hq]
      exact List.mem_cons_of_mem _ List.mem_cons_self
  · intro k hk
    rw [← a2 k hk]
    exact g3.rn (by decide)
  · intro q
    simp only [List.mem_cons, List.not_mem_nil, or_false, Prod.mk.injEq] at q
    omega
theorem CSt.fail {s : Sg} {k : Int32} (h : CSt B n t M s) (H : Ev none e 27 0 [some (.ref 3), some (.int k)] [] M v M' 0 0) : FA (fP t) (wP t) M M' ∧ RSt B n t M' v (.inr (k, (hdT s.1).2.1)) := by
  obtain ⟨a1, a2, a3, a4, a5, a6, a7, a8, a9⟩ := h
  obtain ⟨g1, g2, g3, g4, g5⟩ := fail_ok a1 a3 H
  refine ⟨g3.more (fun q hq => ?_) (fun q hq => by cases hq), g1, g2, g4, g5⟩
  rcases List.mem_cons.mp hq with rfl | hq
  · exact List.mem_cons_of_mem _ (List.mem_cons_of_mem _ (List.mem_cons_of_mem _ List.mem_cons_self))
  · rw [List.mem_singleton.mp hq]
    exact List.mem_cons_of_mem _ (List.mem_cons_of_mem _ (List.mem_cons_of_mem _ (List.mem_cons_of_mem _ List.mem_cons_self)))
theorem CSt.emit {s : Sg} {c : Cdq} {x y z : Int32} (h : CSt B n t M s) (ht : gNth sT t = some 28) (hl : s.2.2.length + 1 ≤ 2 * s.2.1) (hc : (x, y, z) = cM c) (H : Ev none e 40 0 [some (.ref 3), some (.int x), some (.int y), some (.int z)] [] M v M' 0 0) : v = none ∧ FA (fP t) (wP t) M M' ∧ CSt B n t M' (s.1, s.2.1, s.2.2 ++ [c]) := by
  obtain ⟨a1, a2, a3, a4, a5, a6, a7, a8, a9⟩ := h
  have hb := tx_ge ht
  obtain ⟨g1, g2, g3, g4⟩ := emit_ok a1 ht a6 a7 (by omega) hc H
  have nW : ∀ k, k ≤ 110 → k ∉ wP t := fun k hk q => by
    simp only [wP, List.mem_cons, List.not_mem_nil, or_false] at q
    omega
  have nF : ∀ k, (3, k) ∉ [(t, 9)] := fun k q => by
    simp only [List.mem_cons, List.not_mem_nil, or_false, Prod.mk.injEq] at q
    omega
  refine ⟨g1, g3.more (fun q hq => ?_) (fun q hq => hq), g2, ?_, a3.frm g3 (nF _) (nF _) (nF _) (nW _ (by omega)) (nW _ (by omega)) (nW _ (by omega)) (nW _ (by omega)), by rw [g3.fi (nF _)]; exact a4, a5, by rw [g3.fr (nF _)]; exact a6, g4, by rw [List.length_append]; exact hl, by rw [g3.fi (nF _)]; exact a9⟩
  · rw [List.mem_singleton.mp hq]
    exact List.mem_cons_of_mem _ (List.mem_cons_of_mem _ (List.mem_cons_of_mem _ (List.mem_cons_of_mem _ (List.mem_cons_of_mem _ List.mem_cons_self))))
  · intro k hk
    rw [← a2 k hk]
    exact g3.rn (nW _ (by omega))
theorem CSt.one {s : Sg} (h : CSt B n t M s) (ht : gNth sT t = some 28) (h40 : s.2.1 < 40) : FA (fP t) (wP t) M (wF M 3 11 (zI M 3 11 + 1)) ∧ CSt B n t (wF M 3 11 (zI M 3 11 + 1)) (s.1, s.2.1 + 1, s.2.2) := by
  obtain ⟨a1, a2, a3, a4, a5, a6, a7, a8, a9⟩ := h
  have hb := tx_ge ht
  have F : FA [(3, 11)] [] M (wF M 3 11 (zI M 3 11 + 1)) := FA.wF List.mem_cons_self
  refine ⟨F.more (fun q hq => ?_) (fun q hq => by cases hq), a1.kf, ?_, a3.frm F (by decide) (by decide) (by decide) List.not_mem_nil List.not_mem_nil List.not_mem_nil List.not_mem_nil, ?_, h40, by rw [F.fr (by decide)]; exact a6, a7.frm F ?_ List.not_mem_nil List.not_mem_nil List.not_mem_nil, by dsimp only; omega, by rw [F.fi (by decide)]; exact a9⟩
  · rw [List.mem_singleton.mp hq]
    exact List.mem_cons_of_mem _ (List.mem_cons_of_mem _ List.mem_cons_self)
  · intro k hk
    rw [← a2 k hk]
    exact F.rn List.not_mem_nil
  · rw [fI_wF_eq a1.1 qa_3 qi_3_11, i32_p1 (by omega)]
    dsimp only
    omega
  · intro q
    simp only [List.mem_cons, List.not_mem_nil, or_false, Prod.mk.injEq] at q
    omega
end CCN
