/-! THE CLASS'S cond, all, one: what they tell is what the parser tells -/
section CCQ
variable {n t : Nat} {B : Nat → Int32}
theorem FA.tr {F : List (Nat × Nat)} {W : List Nat} {M M1 M2 : Mem} (h1 : FA F W M M1) (h2 : FA F W M1 M2) : FA F W M M2 := h1.trans h2
theorem wd_ne {u : List Int32} {tk : Tok} (h : wdS B tk = u) (hu : u ≠ []) : tk.1 = 2 := by
  unfold wdS at h
  by_cases q : tk.1 = 2
  · exact q
  · rw [if_neg q] at h
    exact absurd h.symm hu
theorem ixF_bd {w : List Int32} : ∀ (ws : List (List Int32)) (i : Int32), 0 ≤ i.toInt → i.toInt + ws.length ≤ 100 → (ixF w ws i = -1) ∨ (i.toInt ≤ (ixF w ws i).toInt ∧ (ixF w ws i).toInt < i.toInt + ws.length ∧ w ∈ ws) := by
  intro ws
  induction ws with
  | nil => intro i _ _; exact Or.inl rfl
  | cons u r ih =>
    intro i h0 h1
    rw [List.length_cons] at h1
    have hi : (i + 1).toInt = i.toInt + 1 := i32_p1 (by omega)
    show (if w = u then i else ixF w r (i + 1)) = -1 ∨ (i.toInt ≤ (if w = u then i else ixF w r (i + 1)).toInt ∧ (if w = u then i else ixF w r (i + 1)).toInt < i.toInt + ((u :: r).length : Nat) ∧ w ∈ u :: r)
    rw [List.length_cons]
    by_cases hw : w = u
    · rw [if_pos hw]
      exact Or.inr ⟨by omega, by omega, by rw [hw]; exact List.mem_cons_self⟩
    · rw [if_neg hw]
      rcases ih (i + 1) (by omega) (by omega) with h | ⟨h, h2, h3⟩
      · exact Or.inl h
      · exact Or.inr ⟨by omega, by omega, List.mem_cons_of_mem _ h3⟩
/-- what a word among the ONES is -/
theorem one_wd {tk : Tok} (h : ¬ ixF (wdS B tk) oneW 0 < 0) : tk.1 = 2 ∧ 0 ≤ (ixF (wdS B tk) oneW 0).toInt ∧ (ixF (wdS B tk) oneW 0).toInt ≤ 12 := by
  have z0 : (0 : Int32).toInt = 0 := rfl
  rcases ixF_bd (w := wdS B tk) oneW 0 (by decide) (by decide) with q | ⟨q1, q2, q3⟩
  · rw [q] at h
    exact absurd (by decide) h
  · have h4 : (oneW.length : Int) = 13 := rfl
    refine ⟨wd_ne (B := B) (u := wdS B tk) rfl (fun x => ?_), by omega, by omega⟩
    rw [x] at q3
    revert q3
    decide
theorem i32_in {a : Int32} {k : Nat} (h0 : 0 ≤ a.toInt) (h1 : a.toInt ≤ (k : Int)) (hk : k < 1000) : ∃ m, m ≤ k ∧ a = nI m := by
  refine ⟨a.toInt.toNat, by omega, Int32.toInt_inj.mp ?_⟩
  rw [nI_toInt (lt31 (by omega))]
  omega
theorem one_tab : ∀ m : Nat, m ≤ 12 → ((sI 3 (nI m) = 8) ↔ nI m = 12) ∧ (m < 12 → (sI 3 (nI m) < 4 ↔ ¬ (8 : Int32) ≤ nI m)) ∧ ¬ nI m < 0 ∧ (0 : Int32) ≤ nI m := by decide
theorem cM_flag : ∀ m : Nat, m ≤ 7 → (sI 3 (nI m), sI 4 (nI m), sI 4 (nI m)) = cM (nI m, 0, 0) := by
  intro m hm
  unfold cM
  have h : nI m ≠ 20 ∧ nI m ≠ 21 ∧ nI m ≠ 22 ∧ nI m < 8 := by
    revert m
    decide
  rw [if_neg h.1, if_neg h.2.1, if_neg h.2.2.1, if_pos h.2.2.2]
theorem cM_cmp0 : ∀ m : Nat, m ≤ 11 → 8 ≤ m → nI m ≠ 20 ∧ nI m ≠ 21 ∧ nI m ≠ 22 ∧ ¬ nI m < 8 := by decide
theorem cM_cmp (m : Nat) (h8 : 8 ≤ m) (h11 : m ≤ 11) : nI m ≠ 20 ∧ nI m ≠ 21 ∧ nI m ≠ 22 ∧ ¬ nI m < 8 := cM_cmp0 m h11 h8
theorem fail_ret {M M1 M' : Mem} {v v1 : Option Value} {s : Sg} {k : Int32} {d : Nat} (hC : CSt B n t M s) (H1 : Ev none d 27 0 [some (.ref 3), some (.int k)] [] M v1 M1 0 0) (hr : ∀ y : Int32, v1 = some (.int y) → v = some (.int y) ∧ M' = M1) : FA (fP t) (wP t) M M' ∧ RSt B n t M' v (.inr (k, (hdT s.1).2.1)) := by
  obtain ⟨f1, f2⟩ := hC.fail H1
  obtain ⟨r1, r2⟩ := hr 0 (RS_err f2).1
  subst r2
  exact ⟨f1, r1, (RS_err f2).2⟩
theorem cmp_ok {e m : Nat} {M M' : Mem} {v : Option Value} {s : Sg} (ht : gNth sT t = some 28) (h8 : 8 ≤ m) (h11 : m ≤ 11) (hC : CSt B n t M s) (hl : s.2.2.length + 1 ≤ 2 * s.2.1) (H : Ev none e 39 0 [some (.ref 3), some (.int (sI 3 (nI m))), none, none] [] M v M' 0 0) : FA (fP t) (wP t) M M' ∧ RSt B n t M' v (cmpS (nI m) s) := by
  have hS := hC.1
  obtain ⟨c1, c2, c3, c4, c5, c6, c7⟩ := hC.2.2.1.at
  obtain ⟨k1, k2, k3, k4⟩ := cM_cmp m h8 h11
  -- behind the sign
  have rest : ∀ {e1 : Nat} {v1 : Option Value} {M1 : Mem}, ((hdT s.1).1 = 60 ∨ (hdT s.1).1 = 61 ∨ (hdT s.1).1 = 62) → Ev none e1 31 0 [some (.ref 3)] [] M v1 M1 0 0 → Ev none e 39 33 [some (.ref 3), some (.int (sI 3 (nI m))), some (.int (zI M 3 7)), none] (v1.toList ++ []) M1 v M' 0 0 → FA (fP t) (wP t) M M' ∧ RSt B n t M' v (cmpS (nI m) s) := by
    intro e1 v1 M1 hq H1 H
    have q0 : (hdT s.1).1 ≠ 0 := fun q => by rw [q] at hq; revert hq; decide
    have q1 : (hdT s.1).1 ≠ 1 := fun q => by rw [q] at hq; revert hq; decide
    obtain ⟨rfl, F1, C1⟩ := hC.go ht q0 q1 H1
    obtain ⟨b1, b2, b3, b4, b5, b6, b7⟩ := C1.2.2.1.at
    have H : Ev none e 39 33 [some (.ref 3), some (.int (sI 3 (nI m))), some (.int (zI M 3 7)), none] [] M1 v M' 0 0 := H
    rw [c5] at H
    have hcmp : ¬ ((hdT s.1).1 ≠ 60 ∧ (hdT s.1).1 ≠ 61 ∧ (hdT s.1).1 ≠ 62) := fun q => hq.elim q.1 (fun x => x.elim q.2.1 q.2.2)
    unfold cmpS
    rw [if_neg hcmp]
    -- behind the step
    have fin : ∀ {e2 : Nat} {v2 : Option Value} {M2 : Mem} {x y z : Int32}, (hdT s.1.tail).1 = 3 → (x, y, z) = cM (nI m, (hdT s.1).1, (hdT s.1.tail).2.2.2) → Ev none e2 40 0 [some (.ref 3), some (.int x), some (.int y), some (.int z)] [] M1 v2 M2 0 0 → (v2 = none → SQ M2 → ∃ e3 v3 M3, Ev none e3 31 0 [some (.ref 3)] [] M2 v3 M3 0 0 ∧ (v3 = none → SQ M3 → v = some (.int 1) ∧ M' = M3)) → FA (fP t) (wP t) M M' ∧ RSt B n t M' v (if (hdT s.1.tail).1 ≠ 3 then .inr (1, (hdT s.1.tail).2.1) else .inl (s.1.tail.tail, s.2.1, s.2.2 ++ [(nI m, (hdT s.1).1, (hdT s.1.tail).2.2.2)])) := by
      intro e2 v2 M2 x y z h3 hxyz H2 hr
      obtain ⟨rfl, F2, C2⟩ := C1.emit ht hl hxyz H2
      obtain ⟨e3, v3, M3, H3, hr⟩ := hr rfl C2.1
      obtain ⟨rfl, F3, C3⟩ := C2.go ht (by rw [h3]; decide) (by rw [h3]; decide) H3
      obtain ⟨rfl, rfl⟩ := hr rfl C3.1
      rw [if_neg (fun q => q h3)]
      exact ⟨(F1.tr F2).tr F3, rfl, C3⟩
    rcases cm_33 C1.1 H with ⟨g1, g2, e2, v2, M2, rfl, H2, H⟩ | ⟨g1, g2, g3, e2, v2, M2, rfl, H2, H⟩ | ⟨g1, g2, g3, e2, v2, M2, rfl, H2, H⟩ | ⟨g1, e2, v2, M2, rfl, H2, H⟩
    · rw [b5] at g1
      have g1 : (hdT s.1.tail).1 = 3 := g1
      have hcm : (sI 3 (nI m), (0 : Int32), rI M1 7 (zI M1 3 6) - 1) = cM (nI m, (hdT s.1).1, (hdT s.1.tail).2.2.2) := by
        unfold cM
        rw [if_neg k1, if_neg k2, if_neg k3, if_neg k4, if_pos g2, b4 g1]
      refine fin g1 hcm H2 (fun hv S2 => ?_)
      subst hv
      obtain ⟨e3, v3, M3, h1, H3, H⟩ := cm_72 S2 H
      exact ⟨e3, v3, M3, H3, fun hv S3 => by subst hv; exact cm_105 S3 H⟩
    · rw [b5] at g1
      have g1 : (hdT s.1.tail).1 = 3 := g1
      have hcm : (sI 3 (nI m), rI M1 7 (zI M1 3 6), rI M1 7 (zI M1 3 6)) = cM (nI m, (hdT s.1).1, (hdT s.1.tail).2.2.2) := by
        unfold cM
        rw [if_neg k1, if_neg k2, if_neg k3, if_neg k4, if_neg g2, if_pos g3, b4 g1]
      refine fin g1 hcm H2 (fun hv S2 => ?_)
      subst hv
      obtain ⟨e3, v3, M3, h1, H3, H⟩ := cm_88 S2 H
      exact ⟨e3, v3, M3, H3, fun hv S3 => by subst hv; exact cm_105 S3 H⟩
    · rw [b5] at g1
      have g1 : (hdT s.1.tail).1 = 3 := g1
      have hcm : (sI 3 (nI m), rI M1 7 (zI M1 3 6) + 1, (2147483647 : Int32)) = cM (nI m, (hdT s.1).1, (hdT s.1.tail).2.2.2) := by
        unfold cM
        rw [if_neg k1, if_neg k2, if_neg k3, if_neg k4, if_neg g2, if_neg g3, b4 g1]
      refine fin g1 hcm H2 (fun hv S2 => ?_)
      subst hv
      obtain ⟨e3, v3, M3, h1, H3, H⟩ := cm_101 S2 H
      exact ⟨e3, v3, M3, H3, fun hv S3 => by subst hv; exact cm_105 S3 H⟩
    · rw [b5] at g1
      have g1 : ¬ (hdT s.1.tail).1 = 3 := g1
      rw [if_pos g1]
      obtain ⟨r1, r2⟩ := fail_ret (v := v) (M' := M') C1 H2 (fun y hy => by subst hy; exact cm_46 (RS_err (C1.fail H2).2).2.1 H)
      exact ⟨F1.tr r1, r2⟩
  rcases cm_0 hS H with ⟨g1, e1, v1, M1, rfl, H1, H⟩ | ⟨g1, g2, e1, v1, M1, rfl, H1, H⟩ | ⟨g1, g2, g3, e1, v1, M1, rfl, H1, H⟩ | ⟨g1, g2, g3, e1, v1, M1, rfl, H1, H⟩
  · rw [c5] at g1
    exact rest (Or.inl g1) H1 H
  · rw [c5] at g2
    exact rest (Or.inr (Or.inl g2)) H1 H
  · rw [c5] at g3
    exact rest (Or.inr (Or.inr g3)) H1 H
  · rw [c5] at g1 g2 g3
    unfold cmpS
    rw [if_pos ⟨g1, g2, g3⟩]
    exact fail_ret hC H1 (fun y hy => by subst hy; exact cm_28 (RS_err (hC.fail H1).2).2.1 H)
end CCQ
