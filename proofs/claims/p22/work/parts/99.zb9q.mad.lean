/-! THE REFERENCE'S one -/
section MAD
variable {n : Nat} {B : Nat → Int32}
theorem opS_20 {P : List Int32} : opS (20 :: P) = opS P + 1 := rfl
theorem opS_23 {P : List Int32} : opS (23 :: P) = opS P + 1 := rfl
/-- behind the first token of an ONE -/
theorem one_74 {C O : Nat → Sg → PR} {DC DO : Nat → Prop} (hn2 : n ≤ 440) (hC : MCon B n DC C) (hO : MOne B n DO O) (gC : ∀ dep s s2, C dep s = .inl s2 → Gw s s2) (gO : ∀ dep s s2, O dep s = .inl s2 → Gw s s2) {d dep : Nat} {s : Sg} {P : List Int32} {M M1 M' : Mem} {v v1 : Option Value} {nt a : Int32} {c0 c3 : Option Value} (hDC : DC (dep + 1)) (hDO : DO (dep + 1)) (hdep : opS P + 1 = dep) (hd10 : dep ≤ 10) (hR : RC B n M s P) (h40 : s.2.1 ≤ 40) (hnt : (nt = 1 ∧ a = -1) ∨ (nt = 0 ∧ (a = -1 ∨ (0 ≤ a.toInt ∧ a.toInt ≤ 11)))) (H1 : Ev none d 180 74 [some (.ref 633), some (.int nt), some (.int a), c3] [] M v1 M1 0 0) (H : Ev none (d + 1) 179 9 [some (.ref 633), c0] (v1.toList ++ []) M1 v M' 0 0) : match (if nt = 0 ∧ a = -1 then (match C (dep + 1) s with
    | .inr f => .inr f
    | .inl s2 => if (hdT s2.1).1 ≠ 41 then .inr (1, (hdT s2.1).2.1) else .inl (s2.1.tail, s2.2.1, s2.2.2))
  else if nt = 1 then (match O (dep + 1) s with
    | .inr f => .inr f
    | .inl s2 => .inl (s2.1, s2.2.1, s2.2.2 ++ [(20, 0, 0)]))
  else if 8 ≤ a then cmpS a s
  else .inl (s.1, s.2.1, s.2.2 ++ [(a, 0, 0)]) : PR) with
  | .inr f => FLT M M' v f
  | .inl s2 => ∃ M2, FB fQ wQ M M2 ∧ RC B n M2 (s2.1, s2.2.1, (wdP 3 P s2.2.2).2) (wdP 3 P s2.2.2).1 ∧ BST d M2 M' v := by
  have z0 : (0 : Int32).toInt = 0 := rfl
  have hm1 : ∀ {x : Int32}, x = -1 → ¬ 0 ≤ x := fun {x} q => by rw [q]; decide
  -- the sign of a comparison
  have cmp : ∀ {e1 : Nat} {v3 : Option Value} {M3 : Mem} {c : Int32}, 0 ≤ a.toInt → 8 ≤ a → (c = 60 ∨ c = 61 ∨ c = 62) → (hdT s.1).1 = c → zI M 633 25 = c → Ev none e1 162 0 [some (.ref 633), none, none, none] [] M v3 M3 0 0 → Ev none d 180 169 [some (.ref 633), some (.int nt), some (.int a), some (.int (zI M 633 25))] (v3.toList ++ []) M3 v1 M1 0 0 → (match cmpS a s with
  | .inr f => FLT M M' v f
  | .inl s2 => ∃ M2, FB fQ wQ M M2 ∧ RC B n M2 (s2.1, s2.2.1, (wdP 3 P s2.2.2).2) (wdP 3 P s2.2.2).1 ∧ BST d M2 M' v) := by
    intro e1 v3 M3 c ha ha8 hc h1 h25 H3 H2
    have q0 : (hdT s.1).1 ≠ 0 := fun q => by rw [h1] at q; rw [q] at hc; revert hc; decide
    have q1 : (hdT s.1).1 ≠ 1 := fun q => by rw [h1] at q; rw [q] at hc; revert hc; decide
    obtain ⟨rfl, F1, R1⟩ := hR.next hn2 q0 q1 H3
    have H2 : Ev none d 180 169 [some (.ref 633), some (.int nt), some (.int a), some (.int (zI M 633 25))] [] M3 v1 M1 0 0 := H2
    unfold cmpS
    rw [if_neg (fun q => hc.elim (fun q2 => q.1 (h1.trans q2)) (fun q2 => q2.elim (fun q2 => q.2.1 (h1.trans q2)) (fun q2 => q.2.2 (h1.trans q2))))]
    rcases oe_169 R1.1 H2 with ⟨g1, e2, v4, M4, rfl, H4, H2⟩ | ⟨g1, e2, v4, M4, rfl, H4, H2⟩
    · rcases R1.2.2.2.1.num with ⟨_, b2, b3⟩ | ⟨b1, _⟩
      rotate_left
      · exact absurd g1 b1
      have b2 : (hdT s.1.tail).1 = 3 := b2
      rw [if_neg (fun q => q b2)]
      obtain ⟨rfl, F2, R2⟩ := R1.write H4
      obtain ⟨e3, v5, M5, _, H5, H2⟩ := oe_193 R2.1 H2
      obtain ⟨rfl, F3, R3⟩ := R2.next hn2 (by rw [show (hdT (s.1.tail, s.2.1, s.2.2 ++ [(a, zI M 633 25, zI M3 633 25)]).1).1 = 3 from b2]; decide) (by rw [show (hdT (s.1.tail, s.2.1, s.2.2 ++ [(a, zI M 633 25, zI M3 633 25)]).1).1 = 3 from b2]; decide) H5
      obtain ⟨e4, v6, M6, _, H6, H2⟩ := oe_197 R3.1 H2
      obtain ⟨M7, F4, R4, hB⟩ := one_end (nt := nt) (a := a) (c3 := c3) R3 H6 (fun S q => by subst q; exact oe_202 S H2) H
      refine ⟨M7, ((F1.trans F2).trans F3).trans F4, ?_, hB⟩
      have b3 : zI M3 633 25 = (hdT s.1.tail).2.2.2 := b3
      have e9 : s.2.2 ++ [(a, zI M 633 25, zI M3 633 25)] = s.2.2 ++ [(a, (hdT s.1).1, (hdT s.1.tail).2.2.2)] := by rw [b3, h25, h1]
      dsimp only at R4 ⊢
      rw [← e9]
      exact R4
    · rcases R1.2.2.2.1.num with ⟨b1, _⟩ | ⟨_, b2⟩
      · exact absurd b1 g1
      have b2 : (hdT s.1.tail).1 ≠ 3 := b2
      rw [if_pos b2]
      exact FLT.pre F1 (bad_end R1 H4 (fun y hy S => by subst hy; exact oe_182 S H2) H)
  rcases oe_74 hR.1 H1 with ⟨g1, g2, g3, g4, g5, e1, v3, M3, rfl, H3, H2⟩ | ⟨g1, g2, g3, g4, g5, e1, v3, M3, rfl, H3, H2⟩ | ⟨g1, g2, g3, g4, e1, v3, M3, rfl, H3, H2⟩ | ⟨g1, g2, g3, e1, v3, M3, rfl, H3, H2⟩ | ⟨g1, g2, e1, v3, M3, rfl, H3, H2⟩ | ⟨g1, g2, ⟨_, g3⟩, H2⟩ | ⟨g1, g2, ⟨_, g3⟩, H2⟩
  -- no sign
  · have ha : ¬ (nt = 0 ∧ a = -1) := fun q => hm1 q.2 g1
    have hn1 : ¬ nt = 1 := fun q => hnt.elim (fun q2 => hm1 q2.2 g1) (fun q2 => absurd (q.symm.trans q2.1) (by decide))
    rw [if_neg ha, if_neg hn1, if_pos g2]
    unfold cmpS
    have k1 : (hdT s.1).1 ≠ 60 := by
      rcases hR.2.2.2.1.sign (c := 60) (by decide) with ⟨q, _⟩ | ⟨_, q⟩
      · rw [q] at g3; exact absurd g3 (by decide)
      · exact q
    have k2 : (hdT s.1).1 ≠ 61 := by
      rcases hR.2.2.2.1.sign (c := 61) (by decide) with ⟨q, _⟩ | ⟨_, q⟩
      · rw [q] at g4; exact absurd g4 (by decide)
      · exact q
    have k3 : (hdT s.1).1 ≠ 62 := by
      rcases hR.2.2.2.1.sign (c := 62) (by decide) with ⟨q, _⟩ | ⟨_, q⟩
      · rw [q] at g5; exact absurd g5 (by decide)
      · exact q
    rw [if_pos ⟨k1, k2, k3⟩]
    exact bad_end hR H3 (fun y hy S => by subst hy; exact oe_159 S H2) H
  · have ha : ¬ (nt = 0 ∧ a = -1) := fun q => hm1 q.2 g1
    have hn1 : ¬ nt = 1 := fun q => hnt.elim (fun q2 => hm1 q2.2 g1) (fun q2 => absurd (q.symm.trans q2.1) (by decide))
    rw [if_neg ha, if_neg hn1, if_pos g2]
    rcases hR.2.2.2.1.sign (c := 62) (by decide) with ⟨_, q, q2⟩ | ⟨q, _⟩
    · exact cmp (by rw [Int32.le_iff_toInt_le] at g1; omega) g2 (by decide) q q2 H3 H2
    · exact absurd q g5
  · have ha : ¬ (nt = 0 ∧ a = -1) := fun q => hm1 q.2 g1
    have hn1 : ¬ nt = 1 := fun q => hnt.elim (fun q2 => hm1 q2.2 g1) (fun q2 => absurd (q.symm.trans q2.1) (by decide))
    rw [if_neg ha, if_neg hn1, if_pos g2]
    rcases hR.2.2.2.1.sign (c := 61) (by decide) with ⟨_, q, q2⟩ | ⟨q, _⟩
    · exact cmp (by rw [Int32.le_iff_toInt_le] at g1; omega) g2 (by decide) q q2 H3 H2
    · exact absurd q g4
  · have ha : ¬ (nt = 0 ∧ a = -1) := fun q => hm1 q.2 g1
    have hn1 : ¬ nt = 1 := fun q => hnt.elim (fun q2 => hm1 q2.2 g1) (fun q2 => absurd (q.symm.trans q2.1) (by decide))
    rw [if_neg ha, if_neg hn1, if_pos g2]
    rcases hR.2.2.2.1.sign (c := 60) (by decide) with ⟨_, q, q2⟩ | ⟨q, _⟩
    · exact cmp (by rw [Int32.le_iff_toInt_le] at g1; omega) g2 (by decide) q q2 H3 H2
    · exact absurd q g3
  -- a word alone
  · have ha : ¬ (nt = 0 ∧ a = -1) := fun q => hm1 q.2 g1
    have hn1 : ¬ nt = 1 := fun q => hnt.elim (fun q2 => hm1 q2.2 g1) (fun q2 => absurd (q.symm.trans q2.1) (by decide))
    rw [if_neg ha, if_neg hn1, if_neg g2]
    obtain ⟨rfl, F1, R1⟩ := hR.write H3
    obtain ⟨e4, v6, M6, _, H6, H2⟩ := oe_124 R1.1 H2
    obtain ⟨M7, F4, R4, hB⟩ := one_end (nt := nt) (a := a) (c3 := c3) R1 H6 (fun S q => by subst q; exact oe_202 S H2) H
    exact ⟨M7, F1.trans F4, R4, hB⟩
  -- a bracket
  · have hn : nt = 0 ∧ a = -1 := by
      rcases hnt with ⟨q, _⟩ | ⟨q, q2⟩
      · rw [q] at g2; exact absurd g2 (by decide)
      · rcases q2 with q2 | ⟨q2, _⟩
        · exact ⟨q, q2⟩
        · exact absurd (by rw [Int32.le_iff_toInt_le]; exact q2) g1
    rw [if_pos hn]
    obtain ⟨F1, R1⟩ := hR.push (x := 23) g3
    have h := hC d (dep + 1) s (23 :: P) _ M' v hDC (by rw [opS_23]; omega) (by omega) (Or.inr ⟨P, rfl⟩) R1 h40 ⟨c0, _, _, _, v1, M1, H2, H⟩
    cases hr : C (dep + 1) s with
    | inr f =>
      rw [hr] at h
      exact FLT.pre F1 h
    | inl s2 =>
      rw [hr] at h
      obtain ⟨M2, pend, c, p1, p2, p3, p4, F2, R2, ⟨c4, hB⟩⟩ := h
      have p23 : (23 : Int32) ∈ pend ++ 23 :: P := List.mem_append_right _ List.mem_cons_self
      show match (if (hdT s2.1).1 ≠ 41 then (.inr (1, (hdT s2.1).2.1) : PR) else .inl (s2.1.tail, s2.2.1, s2.2.2)) with
        | .inr f => FLT M M' v f
        | .inl s2 => ∃ M2, FB fQ wQ M M2 ∧ RC B n M2 (s2.1, s2.2.1, (wdP 3 P s2.2.2).2) (wdP 3 P s2.2.2).1 ∧ BST d M2 M' v
      have an0 : G_164 M2 6385252 = 0 := by
        rcases R2.2.2.2.1.word R2.2.2.2.2.2.1 (u := andW) (C := 6385252) (by decide) (by decide +kernel) with ⟨_, q⟩ | ⟨q, _⟩
        · exact absurd q p3
        · exact q
      have or0 : G_164 M2 28530 = 0 := by
        rcases R2.2.2.2.1.word R2.2.2.2.2.2.1 (u := orW) (C := 28530) (by decide) (by decide +kernel) with ⟨_, q⟩ | ⟨q, _⟩
        · exact absurd q p4
        · exact q
      by_cases h41 : (hdT s2.1).1 = 41
      · rw [if_neg (fun q => q h41)]
        rcases ceq_14 R2.1 hB with ⟨q, _⟩ | ⟨_, e3, v4, M4, _, H4, hB⟩
        · rcases R2.2.2.2.1.sign (c := 41) (by decide) with ⟨q2, _⟩ | ⟨_, q2⟩
          · rw [q2] at q; exact absurd q (by decide)
          · exact absurd h41 q2
        obtain ⟨ho, rfl⟩ := R2.isOpen H4
        rcases ho with ⟨rfl, _⟩ | ⟨_, q⟩
        rotate_left
        · exact absurd p23 q
        rcases ceq_27 R2.1 hB with ⟨q, _⟩ | ⟨_, e4, v5, M5, _, H5, hB⟩
        · exact absurd q (by decide)
        obtain ⟨rfl, F3, R3⟩ := RC.wdown _ _ _ R2 H5
        rw [wdP_1 (Or.inr ⟨P, rfl⟩) pend c p1] at R3
        obtain ⟨e5, v6, M6, _, H6, hB⟩ := ceq_35 R3.1 hB
        obtain ⟨_, F4, R4⟩ := R3.pop
        obtain ⟨rfl, F5, R5⟩ := RC.wdown _ _ _ R4 H6
        obtain ⟨e6, v7, M7, _, H7, hB⟩ := ceq_50 R5.1 hB
        obtain ⟨rfl, F6, R6⟩ := R5.next hn2 (by rw [show (hdT (s2.1, s2.2.1, (wdP 3 P (c ++ opsC pend)).2).1).1 = 41 from h41]; decide) (by rw [show (hdT (s2.1, s2.2.1, (wdP 3 P (c ++ opsC pend)).2).1).1 = 41 from h41]; decide) H7
        have hB := ceq_54 R6.1 hB
        refine ⟨M7, ((((F1.trans F2).trans F3).trans F4).trans F5).trans F6, ?_, _, hB⟩
        rw [p2]
        exact R6
      · rw [if_pos h41]
        have go57 : Ev none (d + 1) 179 57 [some (.ref 633), c4] [] M2 v M' 0 0 := by
          rcases ceq_14 R2.1 hB with ⟨_, hB⟩ | ⟨q, _⟩
          · exact hB
          · rcases R2.2.2.2.1.sign (c := 41) (by decide) with ⟨_, q2, _⟩ | ⟨q2, _⟩
            · exact absurd q2 h41
            · exact absurd q2 q
        rcases ceq_57 R2.1 go57 with ⟨_, _, e3, v4, M4, _, H4, hB⟩ | ⟨_, q, _⟩ | ⟨q, _⟩
        rotate_left
        · exact absurd or0 q
        · exact absurd an0 q
        obtain ⟨ho, rfl⟩ := R2.isOpen H4
        rcases ho with ⟨rfl, _⟩ | ⟨_, q⟩
        rotate_left
        · exact absurd p23 q
        rcases ceq_83 R2.1 hB with ⟨q, _⟩ | ⟨_, e4, v5, M5, _, H5, hB⟩
        · exact absurd q (by decide)
        obtain ⟨rfl, S0, F0, r1, r2⟩ := R2.bad H5
        obtain ⟨h3, rfl⟩ := ceq_91 S0 hB
        exact ⟨h3, S0, (F1.trans F2).trans F0, r1, r2⟩
  -- a not
  · have hn : nt = 1 := by
      rcases hnt with ⟨q, _⟩ | ⟨q, _⟩
      · exact q
      · exact absurd q g2
    have ha : ¬ (nt = 0 ∧ a = -1) := fun q => g2 q.1
    rw [if_neg ha, if_pos hn]
    obtain ⟨F1, R1⟩ := hR.push (x := 20) g3
    have h := hO d (dep + 1) s (20 :: P) _ M' v hDO (by rw [opS_20]; omega) (by omega) R1 h40 ⟨c0, _, _, _, v1, M1, H2, H⟩
    cases hr : O (dep + 1) s with
    | inr f =>
      rw [hr] at h
      exact FLT.pre F1 h
    | inl s2 =>
      rw [hr] at h
      obtain ⟨M2, F2, R2, hB⟩ := h
      rw [wdP_not] at R2
      exact ⟨M2, F1.trans F2, R2, hB⟩
end MAD
