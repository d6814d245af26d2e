/-! THE CLASS READS A TEXT, from its start; law -/
noncomputable def M0t (M : Mem) (t : Nat) (lw : Int32) : Mem := wF (wF (wF (wF (X_51 (wF (wR M 3 8 t) 3 9 lw) t) 3 10 0) 3 11 0) 3 12 0) 3 13 0
section RTX
variable {n t : Nat} {B : Nat → Int32} {M M' : Mem} {lw : Int32}
theorem bdT_tl {B : Nat → Int32} {n : Nat} : ∀ m p, n - p ≤ m → p ≤ n → bdT n (tlS B n p) ∧ (tlS B n p).length ≤ mn4 n - p + 1 := by
  intro m
  induction m with
  | zero =>
    intro p h1 h2
    have hm := mn4_le (n := n)
    rw [tlS_end h2 (by omega)]
    refine ⟨fun t ht => ?_, by simp⟩
    rw [List.mem_singleton] at ht
    subst ht
    exact ⟨Nat.le_refl _, hm⟩
  | succ m ih =>
    intro p h1 h2
    have hm := mn4_le (n := n)
    by_cases h : mn4 n ≤ p
    · rw [tlS_end h2 h]
      refine ⟨fun t ht => ?_, by simp⟩
      rw [List.mem_singleton] at ht
      subst ht
      exact ⟨Nat.le_refl _, hm⟩
    · by_cases hb : B p = 32 ∨ B p = 10
      · rw [tlS_bl h hb]
        have := ih (p + 1) (by omega) (by omega)
        exact ⟨this.1, by omega⟩
      · have a0 := tokS_at (B := B) (n := n) (p := p)
        have a1 := tokS_lt (B := B) (n := n) (p := p)
        have a2 := tokS_le (B := B) (n := n) (p := p) (by omega)
        by_cases h1 : (tokS B n p).1 = 1
        · rw [tlS_no h hb h1]
          refine ⟨fun t ht => ?_, by simp⟩
          rw [List.mem_singleton] at ht
          subst ht
          exact ⟨by omega, a2⟩
        · rw [tlS_tok h hb h1]
          have := ih (tokS B n p).2.2.1 (by omega) a2
          refine ⟨fun t ht => ?_, by rw [List.length_cons]; omega⟩
          rcases List.mem_cons.mp ht with rfl | ht
          · exact ⟨by omega, a2⟩
          · exact this.1 t ht
theorem M0t_eq : M0t M t lw = (wF (wF (wF (wF (wF (wF (wF (wF (wF (wF (wF (wR M 3 8 t) 3 9 lw) t 8 0) t 9 0) t 10 40) t 11 50) t 12 10) t 13 3) 3 10 0) 3 11 0) 3 12 0) 3 13 0) := rfl
theorem M0t_sq (hS : SQ M) (ht : gNth sT t = some 28) : SQ (M0t M t lw) := by
  rw [M0t_eq]
  exact (((((((((((((hS).kr_3_8 ht)).kf).kf).kf).kf).kf).kf).kf).kf).kf).kf).kf
theorem M0t_fa : FA [(3, 8), (3, 9), (t, 8), (t, 9), (t, 10), (t, 11), (t, 12), (t, 13), (3, 10), (3, 11), (3, 12), (3, 13)] [] M (M0t M t lw) := by
  rw [M0t_eq]
  exact (((((((((((FA.wR (by simp)).trans (FA.wF (by simp))).trans (FA.wF (by simp))).trans (FA.wF (by simp))).trans (FA.wF (by simp))).trans (FA.wF (by simp))).trans (FA.wF (by simp))).trans (FA.wF (by simp))).trans (FA.wF (by simp))).trans (FA.wF (by simp))).trans (FA.wF (by simp))).trans (FA.wF (by simp))
theorem M0t_3_9 (hS : SQ M) (ht : gNth sT t = some 28) : zI (M0t M t lw) 3 9 = lw := by
  have hb := tx_ge ht
  rw [M0t_eq, fI_wF_ne (by omega), fI_wF_ne (by omega), fI_wF_ne (by omega), fI_wF_ne (by omega), fI_wF_ne (by omega), fI_wF_ne (by omega), fI_wF_ne (by omega), fI_wF_ne (by omega), fI_wF_ne (by omega), fI_wF_ne (by omega)]
  exact fI_wF_eq ((hS).kr_3_8 ht).1 qa_3 qi_3_9
theorem M0t_t_8 (hS : SQ M) (ht : gNth sT t = some 28) : zI (M0t M t lw) t 8 = 0 := by
  have hb := tx_ge ht
  rw [M0t_eq, fI_wF_ne (by omega), fI_wF_ne (by omega), fI_wF_ne (by omega), fI_wF_ne (by omega), fI_wF_ne (by omega), fI_wF_ne (by omega), fI_wF_ne (by omega), fI_wF_ne (by omega), fI_wF_ne (by omega)]
  exact fI_wF_eq (((hS).kr_3_8 ht)).kf.1 ht qi_28_8
theorem M0t_t_9 (hS : SQ M) (ht : gNth sT t = some 28) : zI (M0t M t lw) t 9 = 0 := by
  have hb := tx_ge ht
  rw [M0t_eq, fI_wF_ne (by omega), fI_wF_ne (by omega), fI_wF_ne (by omega), fI_wF_ne (by omega), fI_wF_ne (by omega), fI_wF_ne (by omega), fI_wF_ne (by omega), fI_wF_ne (by omega)]
  exact fI_wF_eq ((((hS).kr_3_8 ht)).kf).kf.1 ht qi_28_9
theorem M0t_t_10 (hS : SQ M) (ht : gNth sT t = some 28) : zI (M0t M t lw) t 10 = 40 := by
  have hb := tx_ge ht
  rw [M0t_eq, fI_wF_ne (by omega), fI_wF_ne (by omega), fI_wF_ne (by omega), fI_wF_ne (by omega), fI_wF_ne (by omega), fI_wF_ne (by omega), fI_wF_ne (by omega)]
  exact fI_wF_eq (((((hS).kr_3_8 ht)).kf).kf).kf.1 ht qi_28_10
theorem M0t_t_11 (hS : SQ M) (ht : gNth sT t = some 28) : zI (M0t M t lw) t 11 = 50 := by
  have hb := tx_ge ht
  rw [M0t_eq, fI_wF_ne (by omega), fI_wF_ne (by omega), fI_wF_ne (by omega), fI_wF_ne (by omega), fI_wF_ne (by omega), fI_wF_ne (by omega)]
  exact fI_wF_eq ((((((hS).kr_3_8 ht)).kf).kf).kf).kf.1 ht qi_28_11
theorem M0t_t_12 (hS : SQ M) (ht : gNth sT t = some 28) : zI (M0t M t lw) t 12 = 10 := by
  have hb := tx_ge ht
  rw [M0t_eq, fI_wF_ne (by omega), fI_wF_ne (by omega), fI_wF_ne (by omega), fI_wF_ne (by omega), fI_wF_ne (by omega)]
  exact fI_wF_eq (((((((hS).kr_3_8 ht)).kf).kf).kf).kf).kf.1 ht qi_28_12
theorem M0t_t_13 (hS : SQ M) (ht : gNth sT t = some 28) : zI (M0t M t lw) t 13 = 3 := by
  have hb := tx_ge ht
  rw [M0t_eq, fI_wF_ne (by omega), fI_wF_ne (by omega), fI_wF_ne (by omega), fI_wF_ne (by omega)]
  exact fI_wF_eq ((((((((hS).kr_3_8 ht)).kf).kf).kf).kf).kf).kf.1 ht qi_28_13
theorem M0t_3_10 (hS : SQ M) (ht : gNth sT t = some 28) : zI (M0t M t lw) 3 10 = 0 := by
  have hb := tx_ge ht
  rw [M0t_eq, fI_wF_ne (by omega), fI_wF_ne (by omega), fI_wF_ne (by omega)]
  exact fI_wF_eq (((((((((hS).kr_3_8 ht)).kf).kf).kf).kf).kf).kf).kf.1 qa_3 qi_3_10
theorem M0t_3_11 (hS : SQ M) (ht : gNth sT t = some 28) : zI (M0t M t lw) 3 11 = 0 := by
  have hb := tx_ge ht
  rw [M0t_eq, fI_wF_ne (by omega), fI_wF_ne (by omega)]
  exact fI_wF_eq ((((((((((hS).kr_3_8 ht)).kf).kf).kf).kf).kf).kf).kf).kf.1 qa_3 qi_3_11
theorem M0t_3_12 (hS : SQ M) (ht : gNth sT t = some 28) : zI (M0t M t lw) 3 12 = 0 := by
  have hb := tx_ge ht
  rw [M0t_eq, fI_wF_ne (by omega)]
  exact fI_wF_eq (((((((((((hS).kr_3_8 ht)).kf).kf).kf).kf).kf).kf).kf).kf).kf.1 qa_3 qi_3_12
theorem M0t_r (hS : SQ M) (ht : gNth sT t = some 28) : fR (M0t M t lw) 3 8 = t := by
  rw [M0t_eq, fR_wF, fR_wF, fR_wF, fR_wF, fR_wF, fR_wF, fR_wF, fR_wF, fR_wF, fR_wF, fR_wF]
  exact fR_wR_eq hS.1 qa_3 qk_3_8
def fTx (t : Nat) : List (Nat × Nat) := [(3, 5), (3, 6), (3, 7), (3, 8), (3, 9), (3, 10), (3, 11), (3, 12), (3, 13), (t, 8), (t, 9), (t, 10), (t, 11), (t, 12), (t, 13)]
def wTx (t : Nat) : List Nat := [4, 5, 6, 7, t + 1, t + 2, t + 3, t + 4, t + 5, t + 6, t + 7, t + 8]
/-- what a text's reading comes to -/
noncomputable def rdB (B : Nat → Int32) (n : Nat) (law : Bool) (C : Sg → PR) : PLn := txB B law C (decide (400 < n)) 17 (tlS B n 0, 0, []) []
theorem rt_ok {e : Nat} {v : Option Value} {law : Bool} (hS : SQ M) (ht : gNth sT t = some 28) (hn : (zI M 1 1).toInt = (n : Int)) (hn2 : n ≤ 440) (hB : ∀ k, k < n → bC M k = B k) (H : Ev none (e + 2) 26 0 [some (.ref 3), some (.ref t), some (.int (bif law then 1 else 0)), none] [] M v M' 0 0) : FA (fTx t) (wTx t) M M' ∧ LNr B n t M' v (rdB B n law ((prS B e).1 1)) := by
  have hb := tx_ge ht
  obtain ⟨e1, v1, M1, he, H1, H⟩ := rt_0 hS ht H
  have H1 : Ev none e1 28 0 [some (.ref 3), none, none, none, none] [] (M0t M t (bif law then 1 else 0)) v1 M1 0 0 := H1
  have s0 := M0t_sq (lw := bif law then 1 else 0) hS ht
  have f0 := M0t_fa (M := M) (t := t) (lw := bif law then 1 else 0)
  have b0 : bC (M0t M t (bif law then 1 else 0)) = bC M := by
    funext k
    exact f0.rn (by simp)
  obtain ⟨rfl, s1, f1, c1, c2⟩ := ft_all (n := n) s0 (by rw [f0.fi (by simp)]; exact hn) hn2 H1
  rw [b0, tlS_cg hB n 0 (by omega) (by omega)] at c1 c2
  have H := rt_41 s1 H
  obtain ⟨z1, z2⟩ := bdT_tl (B := B) (n := n) n 0 (by omega) (by omega)
  have hw := tlS_wf (B := B) (n := n) n 0 (by omega) (by omega)
  have h4 : mn4 n ≤ 400 := by
    unfold mn4
    split <;> omega
  obtain ⟨r, hr⟩ := hw.ne
  have q1 : rI M1 4 0 = (hdT (tlS B n 0)).1 := by
    have := (c2 0 (hdT (tlS B n 0)) (by rw [hr]; rfl)).1
    exact this
  have s2 : SQ (wF (wF M1 3 6 0) 3 7 (rI M1 4 0)) := s1.kf.kf
  have f2 : FA [(3, 6), (3, 7)] [] M1 (wF (wF M1 3 6 0) 3 7 (rI M1 4 0)) := (FA.wF (by simp)).trans (FA.wF (by simp))
  have b1 : ∀ k, k < n → bC (wF (wF M1 3 6 0) 3 7 (rI M1 4 0)) k = B k := by
    intro k hk
    rw [← hB k hk, ← b0]
    exact (f2.rn (by simp)).trans (f1.rn (by simp))
  have g : ∀ a k, (a, k) ≠ (3, 5) → (a, k) ≠ (3, 6) → (a, k) ≠ (3, 7) → zI (wF (wF M1 3 6 0) 3 7 (rI M1 4 0)) a k = zI (M0t M t (bif law then 1 else 0)) a k := fun a k h1 h2 h3 => by
    rw [f2.fi (by simp only [List.mem_cons, List.not_mem_nil, or_false]; intro q; rcases q with q | q; exact h2 q; exact h3 q), f1.fi (by simp only [List.mem_cons, List.not_mem_nil, or_false]; exact h1)]
  have gt : ∀ k, zI (wF (wF M1 3 6 0) 3 7 (rI M1 4 0)) t k = zI (M0t M t (bif law then 1 else 0)) t k := fun k => g t k (fun q => by injection q; omega) (fun q => by injection q; omega) (fun q => by injection q; omega)
  have C0 : CL B n t (wF (wF M1 3 6 0) 3 7 (rI M1 4 0)) (tlS B n 0, 0, []) [] := by
    refine ⟨⟨s2, b1, ⟨tlS B n 0, 0, rfl, hw, z1, ?_, ?_, by omega, ?_, ?_⟩, ?_, Nat.zero_le _, ?_, ⟨?_, Nat.zero_le _, fun j c h => by cases h⟩, Nat.zero_le _, ?_⟩, ⟨?_, Nat.zero_le _, fun j c h => by cases h⟩, ?_, ?_, ?_, ?_, ?_⟩
    · rw [fI_wF_ne (by decide), fI_wF_eq s1.1 qa_3 qi_3_6]
      rfl
    · rw [f2.fi (by decide)]
      exact c1
    · intro j tk h
      have := c2 j tk h
      rw [f2.rn (by simp), f2.rn (by simp), f2.rn (by simp), f2.rn (by simp)]
      exact this
    · rw [fI_wF_eq s1.kf.1 qa_3 qi_3_7]
      exact q1
    · rw [g 3 11 (by decide) (by decide) (by decide), M0t_3_11 hS ht]
      rfl
    · rw [f2.fr (by decide), f1.fr (by decide)]
      exact M0t_r hS ht
    · rw [gt, M0t_t_9 hS ht]
      rfl
    · rw [g 3 12 (by decide) (by decide) (by decide), M0t_3_12 hS ht]
    · rw [gt, M0t_t_8 hS ht]
      rfl
    · rw [gt, M0t_t_10 hS ht]
      rfl
    · rw [gt, M0t_t_11 hS ht]
      rfl
    · rw [gt, M0t_t_12 hS ht]
      rfl
    · rw [gt, M0t_t_13 hS ht]
      rfl
    · rw [g 3 10 (by decide) (by decide) (by decide), M0t_3_10 hS ht]
      rfl
  obtain ⟨f3, R⟩ := tx_loop ht hn2 17 0 _ [] _ M' v rfl rfl C0 (by rw [f2.fi (by decide), f1.fi (by decide), f0.fi (by simp)]; exact hn) (by rw [g 3 9 (by decide) (by decide) (by decide), M0t_3_9 hS ht]) H
  refine ⟨?_, R⟩
  exact (((f0.more (fun q hq => by simp only [fTx, List.mem_cons, List.not_mem_nil, or_false] at hq ⊢; rcases hq with h | h | h | h | h | h | h | h | h | h | h | h <;> simp [h]) (fun q hq => by cases hq)).trans (f1.more (fun q hq => by simp only [fTx, List.mem_cons, List.not_mem_nil, or_false] at hq ⊢; simp [hq]) (fun q hq => by simp only [wTx, List.mem_cons, List.not_mem_nil, or_false] at hq ⊢; rcases hq with h | h | h | h <;> simp [h]))).trans (f2.more (fun q hq => by simp only [fTx, List.mem_cons, List.not_mem_nil, or_false] at hq ⊢; rcases hq with h | h <;> simp [h]) (fun q hq => by cases hq))).trans (f3.more (fun q hq => by simp only [fLq, fTx, List.mem_cons, List.not_mem_nil, or_false] at hq ⊢; rcases hq with h | h | h | h | h | h | h | h | h | h | h | h <;> simp [h]) (fun q hq => by simp only [wLn, wTx, List.mem_cons, List.not_mem_nil, or_false] at hq ⊢; rcases hq with h | h | h | h | h | h | h | h <;> simp [h]))
end RTX
