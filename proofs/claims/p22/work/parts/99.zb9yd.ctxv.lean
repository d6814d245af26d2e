/-! THE CLASS'S law -/
noncomputable def ansB (r : PLn) : Int := match r with
  | .inr f => -1 - (f.2 : Int)
  | .inl q => (q.2.length : Int)
noncomputable def fltB (r : PLn) : Int32 := match r with
  | .inr f => f.1
  | .inl _ => 0
/-- what a text holds -/
def TXT (M : Mem) (t : Nat) (q : Sg × List Lnq) : Prop := LCt M t q.2 ∧ CC M t q.1.2.2 ∧ zI M t 10 = tvS q.2 2 40 ∧ zI M t 11 = tvS q.2 3 50 ∧ zI M t 12 = tvS q.2 4 10 ∧ zI M t 13 = tvS q.2 7 3
section LAWC
variable {n t : Nat} {B : Nat → Int32} {M M' : Mem} {F : List (Nat × Nat)} {W : List Nat}
theorem TXT.frm {q : Sg × List Lnq} (h : TXT M t q) (hF : FA F W M M') (f : ∀ k, 8 ≤ k → k ≤ 13 → (t, k) ∉ F) (w : ∀ b, t < b → b ≤ t + 8 → b ∉ W) : TXT M' t q := by
  obtain ⟨a1, a2, a3, a4, a5, a6⟩ := h
  refine ⟨a1.frm hF (f 8 (by omega) (by omega)) (fun b hb => ?_), a2.frm hF (f 9 (by omega) (by omega)) (w _ (by omega) (by omega)) (w _ (by omega) (by omega)) (w _ (by omega) (by omega)), ?_, ?_, ?_, ?_⟩
  · simp only [List.mem_cons, List.not_mem_nil, or_false] at hb
    exact w b (by omega) (by omega)
  · rw [hF.fi (f 10 (by omega) (by omega))]; exact a3
  · rw [hF.fi (f 11 (by omega) (by omega))]; exact a4
  · rw [hF.fi (f 12 (by omega) (by omega))]; exact a5
  · rw [hF.fi (f 13 (by omega) (by omega))]; exact a6
theorem i32_m1x {x m : Int32} (hm : m = -1) (h : 0 ≤ x.toInt) : (m - x).toInt = -1 - x.toInt := by
  have h1 : m.toInt = -1 := by rw [hm]; rfl
  have h2 := i32_lt x
  rw [i32_sub (by omega) (by omega), h1]
theorem tN (hS : SQ M) : gNth sT (fR M 104 3) = some 28 ∧ gNth sT (fR M 104 2) = some 28 := ⟨(hS.1.fr qa_104 qr_22_3).2, (hS.1.fr qa_104 qr_22_2).2⟩
def fRe (t : Nat) : List (Nat × Nat) := [(104, 2), (104, 3), (1, 1), (0, 15)] ++ fTx t
theorem FA.re (h : FA (fTx t) (wTx t) M M') : FA (fRe t) (wTx t) M M' := h.more (fun q hq => List.mem_append_right _ hq) (fun _ hq => hq)
/-- both ends of a reading -/
theorem re_no {e : Nat} {v : Option Value} {f : Int32 × Nat} (hS : SQ M) (ht : gNth sT t = some 28) (h1 : zI M 3 12 = f.1) (h2 : (zI M 3 13).toInt = (f.2 : Int)) (H : Ev none e 87 0 [some (.ref 0), some (.int 0), some (.ref t)] [] M v M' 0 0) : (∃ x, v = some (.int x) ∧ x.toInt = -1 - (f.2 : Int)) ∧ SQ M' ∧ FA [(1, 1), (0, 15)] [] M M' ∧ zI M' 1 1 = 0 ∧ zI M' 0 15 = f.1 := by
  rcases rends_0 hS ht H with ⟨_, rfl, rfl⟩ | ⟨q, _⟩
  · obtain ⟨m, hm⟩ : ∃ m : Int32, m = -1 := ⟨_, rfl⟩
    refine ⟨⟨_, rfl, ?_⟩, hS.kf.kf, (FA.wF (by simp)).trans (FA.wF (by simp)), ?_, ?_⟩
    · rw [← hm, i32_m1x hm (by omega), h2]
    · rw [fI_wF_ne (by decide), fI_wF_eq hS.1 qa_1 qi_1_1]
    · rw [fI_wF_eq hS.kf.1 qa_0 qi_0_15]
      exact h1
  · exact absurd rfl q
theorem re_yes {e : Nat} {v : Option Value} (hS : SQ M) (ht : gNth sT t = some 28) (H : Ev none e 87 0 [some (.ref 0), some (.int 1), some (.ref t)] [] M v M' 0 0) : v = some (.int (zI M t 8)) ∧ SQ M' ∧ FA [(1, 1), (0, 15)] [] M M' ∧ zI M' 1 1 = 0 ∧ zI M' 0 15 = zI M 3 12 := by
  rcases rends_0 hS ht H with ⟨q, _⟩ | ⟨_, rfl, rfl⟩
  · exact absurd q (by decide)
  · refine ⟨rfl, hS.kf.kf, (FA.wF (by simp)).trans (FA.wF (by simp)), ?_, ?_⟩
    · rw [fI_wF_ne (by decide), fI_wF_eq hS.1 qa_1 qi_1_1]
    · rw [fI_wF_eq hS.kf.1 qa_0 qi_0_15]
theorem law_ok {e : Nat} {v : Option Value} (hS : SQ M) (hn : (zI M 1 1).toInt = (n : Int)) (hn2 : n ≤ 440) (hB : ∀ k, k < n → bC M k = B k) (H : Ev none (e + 3) 85 0 [some (.ref 0), none, none] [] M v M' 0 0) : (∃ x, v = some (.int x) ∧ x.toInt = ansB (rdB B n true ((prS B e).1 1))) ∧ SQ M' ∧ FA (fRe (fR M 104 3)) (wTx (fR M 104 3)) M M' ∧ zI M' 1 1 = 0 ∧ zI M' 0 15 = fltB (rdB B n true ((prS B e).1 1)) ∧ (match rdB B n true ((prS B e).1 1) with
    | .inr _ => fR M' 104 2 = fR M 104 2 ∧ fR M' 104 3 = fR M 104 3
    | .inl q => fR M' 104 2 = fR M 104 3 ∧ fR M' 104 3 = fR M 104 2 ∧ TXT M' (fR M 104 3) q) := by
  obtain ⟨t3, t2⟩ := tN hS
  obtain ⟨e1, v1, M1, he, H1, H⟩ := lw_0 hS H
  obtain ⟨rfl⟩ : e + 2 = e1 := by omega
  obtain ⟨f1, R⟩ := rt_ok (law := true) hS t3 hn hn2 hB H1
  obtain ⟨sp, hsp⟩ : ∃ sp, sp = fR M 104 3 := ⟨_, rfl⟩
  rw [← hsp] at t3 f1 R ⊢
  have hb := tx_ge t3
  cases hr : rdB B n true ((prS B e).1 1) with
  | inr f =>
    rw [hr] at R
    obtain ⟨rfl, s1, r1, r2⟩ := R
    rcases lw_15 s1 H with ⟨_, e2, v2, M2, he2, H2, H⟩ | ⟨q, _⟩
    · obtain ⟨⟨x, rfl, hx⟩, s2, f2, z1, z2⟩ := re_no s1 (tN s1).2 r1 r2 H2
      obtain ⟨rfl, rfl⟩ := lw_62 s2 H
      refine ⟨⟨x, rfl, hx⟩, s2, f1.re.trans (f2.more (fun q hq => ?_) (fun q hq => by cases hq)), z1, z2, ?_, ?_⟩
      · simp only [List.mem_cons, List.not_mem_nil, or_false] at hq
        rcases hq with rfl | rfl <;> simp [fRe]
      · rw [f2.fr (by decide), f1.fr (by simp [fTx])]
      · rw [f2.fr (by decide), f1.fr (by simp [fTx])]
        exact hsp.symm
    · exact absurd rfl q
  | inl q =>
    rw [hr] at R
    obtain ⟨rfl, C1⟩ := R
    have s1 := C1.1.1
    rcases lw_15 s1 H with ⟨q, _⟩ | ⟨_, e2, v2, M2, he2, H2, H⟩
    · exact absurd q (by decide)
    · obtain ⟨t13, t12⟩ := tN s1
      have r3 : fR M1 104 3 = sp := (f1.fr (by simp [fTx])).trans hsp.symm
      have r2 : fR M1 104 2 = fR M 104 2 := f1.fr (by simp [fTx])
      have s1b : SQ (wR M1 104 2 (fR M1 104 3)) := s1.kr_22_2 t13
      have s2 : SQ (wR (wR M1 104 2 (fR M1 104 3)) 104 3 (fR M1 104 2)) := s1b.kr_22_3 t12
      have f2 : FA [(104, 2), (104, 3)] [] M1 (wR (wR M1 104 2 (fR M1 104 3)) 104 3 (fR M1 104 2)) := (FA.wR (by simp)).trans (FA.wR (by simp))
      have e2 : fR (wR (wR M1 104 2 (fR M1 104 3)) 104 3 (fR M1 104 2)) 104 2 = sp := by
        rw [fR_wR_ne (by decide), fR_wR_eq s1.1 qa_104 qk_22_2, r3]
      have e3 : fR (wR (wR M1 104 2 (fR M1 104 3)) 104 3 (fR M1 104 2)) 104 3 = fR M 104 2 := by
        rw [fR_wR_eq s1b.1 qa_104 qk_22_3, r2]
      have h9 : zI M1 3 12 = 0 := C1.1.2.2.2.2.2.2.2.2
      rw [e2] at H2
      obtain ⟨rfl, s3, f3, z1, z2⟩ := re_yes s2 t3 H2
      obtain ⟨rfl, rfl⟩ := lw_62 s3 H
      refine ⟨⟨_, rfl, ?_⟩, s3, (f1.re.trans (f2.more (fun q hq => ?_) (fun q hq => by cases hq))).trans (f3.more (fun q hq => ?_) (fun q hq => by cases hq)), z1, ?_, ?_, ?_, ?_⟩
      · rw [f2.fi (by simp)]
        exact C1.2.1.1
      · simp only [List.mem_cons, List.not_mem_nil, or_false] at hq
        rcases hq with rfl | rfl <;> simp [fRe]
      · simp only [List.mem_cons, List.not_mem_nil, or_false] at hq
        rcases hq with rfl | rfl <;> simp [fRe]
      · rw [z2, f2.fi (by simp), h9]
        rfl
      · rw [f3.fr (by decide), e2]
      · rw [f3.fr (by decide), e3]
      · exact (TXT.frm ⟨C1.2.1, C1.1.2.2.2.2.2.2.1, C1.2.2.1, C1.2.2.2.1, C1.2.2.2.2.1, C1.2.2.2.2.2.1⟩ f2 (fun k _ _ => by simp; omega) (fun b _ _ => by simp)).frm f3 (fun k _ _ => by simp; omega) (fun b _ _ => by simp)
end LAWC
