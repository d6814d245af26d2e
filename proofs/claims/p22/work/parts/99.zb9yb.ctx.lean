/-! THE CLASS READS A TEXT -/
noncomputable def txB (B : Nat → Int32) (law : Bool) (C : Sg → PR) (big : Bool) : Nat → Sg → List Lnq → PLn
  | 0, _, _ => .inr (0, 0)
  | j + 1, s, ls => if (hdT s.1).1 = 0 then (bif big then .inr (1, (hdT s.1).2.1) else .inl (s, ls)) else (match lnB B law C s ls with
    | .inr f => .inr f
    | .inl q => txB B law C big j q.1 q.2)
theorem lnB_len {B : Nat → Int32} {law : Bool} {C : Sg → PR} {s : Sg} {ls : List Lnq} {q : Sg × List Lnq} (h : lnB B law C s ls = .inl q) : q.2.length = ls.length + 1 := by
  have hE : ∀ {s x m nu fr q}, endB s ls x m nu fr = .inl q → q.2.length = ls.length + 1 := fun {s x m nu fr q} h => by
    unfold endB at h
    split at h
    · cases h
    · cases h
      rw [List.length_append]
      rfl
  have hC : ∀ {s x m nu fr q}, cndB B C s ls x m nu fr = .inl q → q.2.length = ls.length + 1 := fun {s x m nu fr q} h => by
    unfold cndB at h
    split at h
    · split at h
      · cases h
      · exact hE h
    · split at h
      · split at h
        · cases h
        · exact hE h
      · exact hE h
  have hN : ∀ {s x m q}, numB B C s ls x m = .inl q → q.2.length = ls.length + 1 := fun {s x m q} h => by
    unfold numB at h
    split at h
    · cases h
    · split at h
      · cases h
      · exact hC h
  unfold lnB at h
  split at h
  · cases h
  · split at h
    · cases h
    · unfold bodB at h
      split at h
      · exact hC h
      · split at h
        · split at h
          · cases h
          · exact hN h
        · exact hN h
section CTX
variable {n t : Nat} {B : Nat → Int32} {M M' : Mem} {s : Sg} {ls : List Lnq}
theorem law_cases {w : List Int32} (h : ¬ ixF w lawW 0 < 0) : ixF w lawW 0 = 0 ∨ ixF w lawW 0 = 1 ∨ ixF w lawW 0 = 2 ∨ ixF w lawW 0 = 3 ∨ ixF w lawW 0 = 4 := by
  rcases ixF_bd (w := w) lawW 0 (by decide) (by decide) with q | ⟨q1, q2, _⟩
  · rw [q] at h
    exact absurd (by decide) h
  · have z0 : (0 : Int32).toInt = 0 := rfl
    have h4 : (lawW.length : Int) = 5 := rfl
    obtain ⟨m, hm, he⟩ := i32_in (a := ixF w lawW 0) (k := 4) (by omega) (by omega) (by omega)
    rw [he]
    exact (by decide : ∀ m : Nat, m ≤ 4 → nI m = 0 ∨ nI m = 1 ∨ nI m = 2 ∨ nI m = 3 ∨ nI m = 4) m hm
theorem hab_cases {w : List Int32} (h : ¬ ixF w habW 0 < 0) : ixF w habW 0 = 0 ∨ ixF w habW 0 = 1 ∨ ixF w habW 0 = 2 := by
  rcases ixF_bd (w := w) habW 0 (by decide) (by decide) with q | ⟨q1, q2, _⟩
  · rw [q] at h
    exact absurd (by decide) h
  · have z0 : (0 : Int32).toInt = 0 := rfl
    have h4 : (habW.length : Int) = 3 := rfl
    obtain ⟨m, hm, he⟩ := i32_in (a := ixF w habW 0) (k := 2) (by omega) (by omega) (by omega)
    rw [he]
    exact (by decide : ∀ m : Nat, m ≤ 2 → nI m = 0 ∨ nI m = 1 ∨ nI m = 2) m hm
theorem ix_wd {tk : Tok} {ws : List (List Int32)} (hl : (ws.length : Int) ≤ 50) (hne : ∀ u ∈ ws, u ≠ []) (h : ¬ ixF (wdS B tk) ws 0 < 0) : tk.1 = 2 := by
  have z0 : (0 : Int32).toInt = 0 := rfl
  rcases ixF_bd (w := wdS B tk) ws 0 (by decide) (by omega) with q | ⟨_, _, q3⟩
  · rw [q] at h
    exact absurd (by decide) h
  · exact wd_ne (B := B) (u := wdS B tk) rfl (hne _ q3)
theorem ln_ok {e : Nat} {v : Option Value} {law : Bool} (ht : gNth sT t = some 28) (hn2 : n ≤ 440) (hCL : CL B n t M s ls) (hlw : zI M 3 9 = bif law then 1 else 0) (H : Ev none (e + 1) 33 0 [some (.ref 3), none, none, none, none, none, none] [] M v M' 0 0) : FA (fLq t) (wLn t) M M' ∧ LNr B n t M' v (lnB B law ((prS B e).1 1) s ls) := by
  have hC := hCL.1
  have h8 := hC.2.2.2.2.2.1
  have hneg : ∀ x : Int32, x < 0 ↔ ¬ 0 ≤ x := fun x => by rw [Int32.lt_iff_toInt_lt, Int32.le_iff_toInt_le]; omega
  have hz : (zI M 3 9 = 0) ↔ law = false := by
    rw [hlw]
    cases law
    · exact ⟨fun _ => rfl, fun _ => rfl⟩
    · exact ⟨fun q => absurd q (by decide), fun q => by cases q⟩
  have e27 : ∀ {e1 : Nat} {v2 : Option Value} {M2 : Mem} {a : Int32}, Ev none e1 27 0 [some (.ref 3), some (.int 1)] [] M v2 M2 0 0 → Ev none (e + 1) 33 28 [some (.ref 3), some (.int a), none, none, none, none, none] (v2.toList ++ []) M2 v M' 0 0 → FA (fLq t) (wLn t) M M' ∧ ERt M' v (1, (hdT s.1).2.1) := by
    intro e1 v2 M2 a H2 H
    obtain ⟨f1, f2⟩ := hC.err (v := v) (M' := M') H2 (fun y hy S => by subst hy; exact ln_28 S (by rw [(hC.fail H2).1.fr (by simp [fP]), h8]; exact ht) H)
    exact ⟨f1.ln, f2⟩
  unfold lnB kdS
  rcases ln_0 hC.1 (by rw [h8]; exact ht) H with ⟨g1, e1, v1, M1, he, H1, H⟩ | ⟨g1, e1, v1, M1, he, H1, H⟩
  · have hl := hz.mp g1
    subst hl
    cases he
    obtain ⟨rfl, rfl⟩ := amq_all (ws := habW) hC.1 hn2 hC.2.2.1 rfl (by decide) (List.cons_ne_nil _ _) (by decide) (by decide) H1
    rw [hC.wd] at H
    show FA (fLq t) (wLn t) M1 M' ∧ LNr B n t M' v (if (if ixF (wdS B (hdT s.1)) habW 0 < 0 then (-1 : Int32) else 5 + ixF (wdS B (hdT s.1)) habW 0) < 0 then .inr (1, (hdT s.1).2.1) else if 16 ≤ ls.length ∨ (onceB (if ixF (wdS B (hdT s.1)) habW 0 < 0 then (-1 : Int32) else 5 + ixF (wdS B (hdT s.1)) habW 0) = true ∧ hasK ls (if ixF (wdS B (hdT s.1)) habW 0 < 0 then (-1 : Int32) else 5 + ixF (wdS B (hdT s.1)) habW 0) = true) then .inr (3, (hdT s.1).2.1) else bodB B ((prS B e).1 1) (s.1.tail, s.2.1, s.2.2) ls (if ixF (wdS B (hdT s.1)) habW 0 < 0 then (-1 : Int32) else 5 + ixF (wdS B (hdT s.1)) habW 0))
    by_cases hx : ixF (wdS B (hdT s.1)) habW 0 < 0
    · rw [if_pos hx, if_pos (by decide)]
      rcases ln_18 hC.1 (by rw [h8]; exact ht) H with ⟨q, _⟩ | ⟨q, _⟩ | ⟨_, e2, v2, M2, he, H2, H⟩
      · exact absurd q ((hneg _).mp hx)
      · exact absurd q ((hneg _).mp hx)
      · exact e27 H2 H
    · have h2t := ix_wd (by decide) (by decide) hx
      rw [if_neg hx]
      rcases ln_18 hC.1 (by rw [h8]; exact ht) H with ⟨_, _, H⟩ | ⟨_, q, _⟩ | ⟨q, _⟩
      · rcases hab_cases hx with hk | hk | hk
        · rw [hk] at H ⊢
          rw [if_neg (by decide)]
          exact li5_ok ht hn2 hCL h2t H
        · rw [hk] at H ⊢
          rw [if_neg (by decide)]
          exact li6_ok ht hn2 hCL h2t H
        · rw [hk] at H ⊢
          rw [if_neg (by decide)]
          exact li7_ok ht hn2 hCL h2t H
      · exact absurd g1 q
      · exact absurd ((hneg _).mpr q) hx
  · have hl : law = true := by
      cases law
      · exact absurd (hz.mpr rfl) g1
      · rfl
    subst hl
    cases he
    obtain ⟨rfl, rfl⟩ := amq_all (ws := lawW) hC.1 hn2 hC.2.2.1 rfl (by decide) (List.cons_ne_nil _ _) (by decide) (by decide) H1
    rw [hC.wd] at H
    show FA (fLq t) (wLn t) M1 M' ∧ LNr B n t M' v (if ixF (wdS B (hdT s.1)) lawW 0 < 0 then .inr (1, (hdT s.1).2.1) else if 16 ≤ ls.length ∨ (onceB (ixF (wdS B (hdT s.1)) lawW 0) = true ∧ hasK ls (ixF (wdS B (hdT s.1)) lawW 0) = true) then .inr (3, (hdT s.1).2.1) else bodB B ((prS B e).1 1) (s.1.tail, s.2.1, s.2.2) ls (ixF (wdS B (hdT s.1)) lawW 0))
    by_cases hx : ixF (wdS B (hdT s.1)) lawW 0 < 0
    · rw [if_pos hx]
      rcases ln_18 hC.1 (by rw [h8]; exact ht) H with ⟨q, _⟩ | ⟨q, _⟩ | ⟨_, e2, v2, M2, he, H2, H⟩
      · exact absurd q ((hneg _).mp hx)
      · exact absurd q ((hneg _).mp hx)
      · exact e27 H2 H
    · have h2t := ix_wd (by decide) (by decide) hx
      rw [if_neg hx]
      rcases ln_18 hC.1 (by rw [h8]; exact ht) H with ⟨_, q, _⟩ | ⟨_, _, H⟩ | ⟨q, _⟩
      · exact absurd q g1
      · rcases law_cases hx with hk | hk | hk | hk | hk
        · rw [hk] at H ⊢
          exact li0_ok ht hn2 hCL h2t H
        · rw [hk] at H ⊢
          exact li1_ok ht hn2 hCL h2t H
        · rw [hk] at H ⊢
          exact li2_ok ht hn2 hCL h2t H
        · rw [hk] at H ⊢
          exact li3_ok ht hn2 hCL h2t H
        · rw [hk] at H ⊢
          exact li4_ok ht hn2 hCL h2t H
      · exact absurd ((hneg _).mpr q) hx
/-- line by line -/
theorem tx_loop {e : Nat} {law : Bool} {lw : Int32} {c1 : Option Value} (ht : gNth sT t = some 28) (hn2 : n ≤ 440) : ∀ (j : Nat) (nn : Int32) (s : Sg) (ls : List Lnq) (M M' : Mem) (v : Option Value), nn.toInt = (ls.length : Int) → ls.length + j = 17 → CL B n t M s ls → (zI M 1 1).toInt = (n : Int) → zI M 3 9 = (bif law then 1 else 0) → Ev none (e + 2) 26 58 [some (.ref 3), c1, some (.int lw), some (.int nn)] [] M v M' 0 0 → FA (fLq t) (wLn t) M M' ∧ LNr B n t M' v (txB B law ((prS B e).1 1) (decide (400 < n)) j s ls) := by
  intro j
  induction j with
  | zero =>
    intro nn s ls M M' v _ h1 hCL _ _ _
    have := hCL.2.1.2.1
    omega
  | succ j ih =>
    intro nn s ls M M' v hnn h1 hCL hn hlw H
    have hC := hCL.1
    have c5 := hC.2.2.1.at.2.2.2.2.1
    have o16 : (16 : Int32).toInt = 16 := rfl
    have o400 : (400 : Int32).toInt = 400 := rfl
    have hb := tx_ge ht
    have h8 := hC.2.2.2.2.2.1
    unfold txB
    rcases rt_58 hC.1 H with ⟨q, _⟩ | ⟨_, g1, g2, g3, rfl⟩ | ⟨_, g1, g2, e1, v1, M1, he, H1, H⟩ | ⟨_, g1, e1, v1, M1, he, H1, H⟩
    · rw [Int32.lt_iff_toInt_lt] at q
      omega
    · rw [c5] at g1
      rw [Int32.le_iff_toInt_le] at g2
      rw [if_pos g1, decide_eq_false (by omega)]
      exact ⟨FA.refl _, g3, hCL⟩
    · rw [c5] at g1
      rw [Int32.le_iff_toInt_le] at g2
      rw [if_pos g1, decide_eq_true (by omega)]
      obtain ⟨f1, f2⟩ := hC.err (v := v) (M' := M') H1 (fun y hy S => by
        subst hy
        have hy0 := (hC.fail H1).2
        obtain ⟨r1, _⟩ := RS_err hy0
        cases r1
        rcases rt_89 S H with ⟨_, r⟩ | ⟨r, _⟩
        · exact r
        · exact absurd rfl r)
      exact ⟨f1.ln, f2⟩
    · rw [c5] at g1
      rw [if_neg g1]
      cases he
      obtain ⟨F1, R1⟩ := ln_ok ht hn2 hCL hlw H1
      cases hr : lnB B law ((prS B e).1 1) s ls with
      | inr f =>
        rw [hr] at R1
        obtain ⟨rfl, S9, r9⟩ := R1
        rcases rt_102 S9 H with ⟨_, h3, rfl⟩ | ⟨h3, _⟩
        · exact ⟨F1, h3, S9, r9⟩
        · exact absurd rfl h3
      | inl q =>
        rw [hr] at R1
        obtain ⟨rfl, C1⟩ := R1
        have hlen := lnB_len hr
        rcases rt_102 C1.1.1 H with ⟨h3, _⟩ | ⟨_, H⟩
        · exact absurd h3 (by decide)
        have n1 : (nn + 1).toInt = nn.toInt + 1 := i32_p1 (by omega)
        obtain ⟨F2, R2⟩ := ih (nn + 1) q.1 q.2 _ _ _ (by omega) (by omega) C1 (by rw [F1.fi (by simp [fLq])]; exact hn) (by rw [F1.fi (by simp [fLq]; omega)]; exact hlw) H
        exact ⟨F1.trans F2, R2⟩
end CTX
