/-! THE REFERENCE'S cond and one: the state, and how it moves -/
abbrev fQ : List (Nat × Nat) := [(633, 4), (633, 19), (633, 20), (633, 21), (633, 22), (633, 23), (633, 24), (633, 25), (633, 26), (633, 27), (633, 31)]
abbrev wQ : List Nat := [645, 646, 647, 648]
/-- the steps in hand -/
def SC (M : Mem) (cs : List Cdq) : Prop := (zI M 633 19).toInt = (cs.length : Int) ∧ ∀ j c, cs[j]? = some c → rN M 645 (1400 + j) = c.1 ∧ rN M 646 (1400 + j) = c.2.1 ∧ rN M 647 (1400 + j) = c.2.2
/-- the pile, its top first -/
def PLa (M : Mem) : List Int32 → Prop
  | [] => True
  | x :: Q => rN M 648 Q.length = x ∧ PLa M Q
def RC (B : Nat → Int32) (n : Nat) (M : Mem) (s : Sg) (P : List Int32) : Prop := SQ M ∧ bR M = B ∧ (zI M 633 3).toInt = (n : Int) ∧ RTk B n M s.1 ∧ wfT s.1 ∧ gdT B s.1 ∧ (zI M 633 21).toInt = (s.2.1 : Int) ∧ SC M s.2.2 ∧ (zI M 633 20).toInt = (P.length : Int) ∧ PLa M P ∧ zI M 633 26 = 0
noncomputable def bdI (x : Int32) : Int32 := if x = 20 then 3 else (if x = 21 then 2 else 1)
noncomputable def wdP (le : Int32) : List Int32 → List Cdq → List Int32 × List Cdq
  | [], cs => ([], cs)
  | x :: Q, cs => if x = 23 ∨ bdI x < le then (x :: Q, cs) else wdP le Q (cs ++ [(x, 0, 0)])
noncomputable def opS : List Int32 → Nat
  | [] => 0
  | x :: Q => opS Q + (if x = 20 ∨ x = 23 then 1 else 0)
section RST
variable {e n : Nat} {M M' : Mem} {v : Option Value} {B : Nat → Int32} {s : Sg} {P : List Int32}
theorem PLa.frm {F : List (Nat × Nat)} {W : List Nat} (hF : FB F W M M') (h : 648 ∉ W) : ∀ {P : List Int32}, PLa M P → PLa M' P
  | [], _ => trivial
  | _ :: _, hp => ⟨by rw [hF.rn h]; exact hp.1, PLa.frm hF h hp.2⟩
theorem SC.frm {F : List (Nat × Nat)} {W : List Nat} {cs : List Cdq} (hF : FB F W M M') (h : SC M cs) (h0 : (633, 19) ∉ F) (h1 : 645 ∉ W) (h2 : 646 ∉ W) (h3 : 647 ∉ W) : SC M' cs := ⟨by rw [hF.fi h0]; exact h.1, fun j c hj => by rw [hF.rn h1, hF.rn h2, hF.rn h3]; exact h.2 j c hj⟩
theorem RTk.frm {F : List (Nat × Nat)} {W : List Nat} {ts : List Tok} (hF : FB F W M M') (h : RTk B n M ts) (h0 : (633, 4) ∉ F) (h1 : (633, 22) ∉ F) (h2 : (633, 23) ∉ F) (h3 : (633, 25) ∉ F) (h4 : (633, 31) ∉ F) : RTk B n M' ts := by
  cases ts with
  | nil => exact h
  | cons t r =>
    unfold RTk at h ⊢
    dsimp only at h ⊢
    rw [hF.fi h0, hF.fi h1, hF.fi h2, hF.fi h3, hF.fl h4]
    exact h
/-- on to the next token -/
theorem RC.next (hn2 : n ≤ 440) (h : RC B n M s P) (h0 : (hdT s.1).1 ≠ 0) (h1 : (hdT s.1).1 ≠ 1) (H : Ev none e 162 0 [some (.ref 633), none, none, none] [] M v M' 0 0) : v = none ∧ FB fQ wQ M M' ∧ RC B n M' (s.1.tail, s.2.1, s.2.2) P := by
  obtain ⟨a1, a2, a3, a4, a5, a6, a7, a8, a9, a10, a11⟩ := h
  obtain ⟨r, hr⟩ := a5.ne
  have h4 := a4
  rw [hr] at h4
  obtain ⟨b1, b2⟩ := h4
  rcases b2 with ⟨b2, _⟩ | ⟨b2, _⟩ | ⟨_, _, b3, b4, b5⟩
  · exact absurd b2 h0
  · exact absurd b2 h1
  obtain ⟨g1, g2, g3, g4⟩ := nx_all hn2 (n - (hdT s.1).2.2.1) _ M (Nat.le_refl _) b3 a1 a3 b4 H
  have ht : s.1.tail = tlS (bR M) n (hdT s.1).2.2.1 := by
    rw [hr, a2]
    exact b5
  have hb : bR M' = bR M := g3.bR (by decide)
  refine ⟨g1, g3.more (by decide) (fun q hq => by cases hq), g2, hb.trans a2, by rw [g3.fi (by decide)]; exact a3, ?_, a5.tl h0 h1, fun t hm => a6 t (List.mem_of_mem_tail hm), by rw [g3.fi (by decide)]; exact a7, a8.frm g3 (by decide) List.not_mem_nil List.not_mem_nil List.not_mem_nil, by rw [g3.fi (by decide)]; exact a9, a10.frm g3 List.not_mem_nil, by rw [g3.fi (by decide)]; exact a11⟩
  show RTk B n M' s.1.tail
  rw [ht, ← a2]
  exact g4
/-- a fault -/
theorem RC.bad {k : Int32} (h : RC B n M s P) (H : Ev none e 163 0 [some (.ref 633), some (.int k)] [] M v M' 0 0) : v = some (.int 0) ∧ SQ M' ∧ FB fQ wQ M M' ∧ zI M' 633 26 = k ∧ (zI M' 633 27).toInt = ((hdT s.1).2.1 : Int) := by
  obtain ⟨a1, a2, a3, a4, a5, a6, a7, a8, a9, a10, a11⟩ := h
  obtain ⟨r, hr⟩ := a5.ne
  rw [hr] at a4
  obtain ⟨g1, g2⟩ := g_163 a1 H
  have S1 : SQ M' := by
    rw [g2]
    exact X_163_sx a1
  unfold X_163 at g2
  subst g2
  refine ⟨g1, S1, (FB.wF (by decide)).trans (FB.wF (by decide)), ?_, ?_⟩
  · rw [fI_wF_ne (fun q => absurd q.2 (by decide)), fI_wF_eq a1.1 qa_633 qi_61_26]
  · rw [fI_wF_eq a1.kf.1 qa_633 qi_61_27]
    exact a4.1
/-- a step written -/
theorem RC.write {x y z : Int32} (h : RC B n M s P) (H : Ev none e 174 0 [some (.ref 633), some (.int x), some (.int y), some (.int z)] [] M v M' 0 0) : v = none ∧ FB fQ wQ M M' ∧ RC B n M' (s.1, s.2.1, s.2.2 ++ [(x, y, z)]) P := by
  obtain ⟨a1, a2, a3, a4, a5, a6, a7, a8, a9, a10, a11⟩ := h
  obtain ⟨⟨w1, w2⟩, -, -, g1, g2⟩ := wt_0 a1 H
  obtain ⟨c1, c2⟩ := a8
  have o1 : (1400 : Int32).toInt = 1400 := rfl
  have hlen : s.2.2.length < 200 := by
    have hb := i32_any (zI M 633 19)
    by_cases hq : (zI M 633 19).toInt ≤ 2147482247
    · rw [i32_add (by omega) (by omega)] at w2
      omega
    · exfalso
      have e1 : (1400 + zI M 633 19).toInt = Int.bmod (1400 + (zI M 633 19).toInt) 4294967296 := by rw [Int32.toInt_add]; rfl
      have e2 : Int.bmod (1400 + (zI M 633 19).toInt) 4294967296 = 1400 + (zI M 633 19).toInt - 4294967296 := by
        unfold Int.bmod
        dsimp only
        split <;> omega
      omega
  have hk : (1400 + zI M 633 19).toNatClampNeg = 1400 + s.2.2.length := cl_n (by rw [i32_add (by omega) (by omega)]; omega)
  rw [hk] at g2
  have s1 : SQ (wI M 645 (1400 + s.2.2.length) x) := a1.ki
  have s2 : SQ (wI (wI M 645 (1400 + s.2.2.length) x) 646 (1400 + s.2.2.length) y) := s1.ki
  have s3 : SQ (wI (wI (wI M 645 (1400 + s.2.2.length) x) 646 (1400 + s.2.2.length) y) 647 (1400 + s.2.2.length) z) := s2.ki
  have F1 : FB [(633, 19)] [645, 646, 647] M M' := by
    rw [g2]
    exact (((FB.wI (by decide)).trans (FB.wI (by decide))).trans (FB.wI (by decide))).trans (FB.wF (by decide))
  refine ⟨g1, F1.more (by decide) (by decide), by rw [g2]; exact s3.kf, (F1.bR (by decide)).trans a2, by rw [F1.fi (by decide)]; exact a3, a4.frm F1 (by decide) (by decide) (by decide) (by decide) (by decide), a5, a6, by rw [F1.fi (by decide)]; exact a7, ⟨?_, fun j c hj => ?_⟩, by rw [F1.fi (by decide)]; exact a9, a10.frm F1 (by decide), by rw [F1.fi (by decide)]; exact a11⟩
  · rw [g2, fI_wF_eq s3.1 qa_633 qi_61_19, i32_p1 (by omega), List.length_append]
    show _ = ((s.2.2.length + 1 : Nat) : Int)
    omega
  · rw [g2, rN_wF, rN_wF, rN_wF]
    by_cases hj2 : j = s.2.2.length
    · subst hj2
      rw [List.getElem?_append_right (Nat.le_refl _), Nat.sub_self] at hj
      cases hj
      refine ⟨?_, ?_, ?_⟩
      · rw [rN_wI_ne (fun q => absurd q.1 (by decide)), rN_wI_ne (fun q => absurd q.1 (by decide)), rN_wI_eq (by rw [(a1.1.row qa_645 qw_73).2]; omega)]
      · rw [rN_wI_ne (fun q => absurd q.1 (by decide)), rN_wI_eq (by rw [(s1.1.row qa_646 qw_74).2]; omega)]
      · rw [rN_wI_eq (by rw [(s2.1.row qa_647 qw_75).2]; omega)]
    · have hlt : j < s.2.2.length := by
        have h1 := (List.getElem?_eq_some_iff.mp hj).1
        rw [List.length_append] at h1
        have h1 : j < s.2.2.length + 1 := h1
        omega
      rw [List.getElem?_append_left hlt] at hj
      have hne : 1400 + j ≠ 1400 + s.2.2.length := by omega
      rw [rN_wI_ne (fun q => hne q.2), rN_wI_ne (fun q => hne q.2), rN_wI_ne (fun q => hne q.2), rN_wI_ne (fun q => hne q.2), rN_wI_ne (fun q => hne q.2), rN_wI_ne (fun q => hne q.2), rN_wI_ne (fun q => hne q.2), rN_wI_ne (fun q => hne q.2), rN_wI_ne (fun q => hne q.2)]
      exact c2 j c hj
/-- one off the pile -/
theorem RC.pop {x : Int32} (h : RC B n M s (x :: P)) : rI M 648 (zI M 633 20 - 1) = x ∧ FB fQ wQ M (wF M 633 20 (zI M 633 20 - 1)) ∧ RC B n (wF M 633 20 (zI M 633 20 - 1)) s P := by
  obtain ⟨a1, a2, a3, a4, a5, a6, a7, a8, a9, a10, a11⟩ := h
  rw [List.length_cons] at a9
  have e1 : (zI M 633 20 - 1).toInt = (P.length : Int) := by rw [i32_m1 (by omega)]; omega
  have F1 : FB [(633, 20)] [] M (wF M 633 20 (zI M 633 20 - 1)) := FB.wF (by decide)
  refine ⟨by rw [rI_n e1]; exact a10.1, F1.more (by decide) (by decide), a1.kf, (F1.bR (by decide)).trans a2, by rw [F1.fi (by decide)]; exact a3, a4.frm F1 (by decide) (by decide) (by decide) (by decide) (by decide), a5, a6, by rw [F1.fi (by decide)]; exact a7, a8.frm F1 (by decide) (by decide) (by decide) (by decide), ?_, a10.2.frm F1 (by decide), by rw [F1.fi (by decide)]; exact a11⟩
  rw [fI_wF_eq a1.1 qa_633 qi_61_20]
  exact e1
/-- one onto the pile -/
theorem RC.push {x : Int32} (h : RC B n M s P) (hl : (zI M 633 20).toInt < 100) : FB fQ wQ M (wF (wI M 648 ((zI M 633 20).toNatClampNeg) x) 633 20 (zI M 633 20 + 1)) ∧ RC B n (wF (wI M 648 ((zI M 633 20).toNatClampNeg) x) 633 20 (zI M 633 20 + 1)) s (x :: P) := by
  obtain ⟨a1, a2, a3, a4, a5, a6, a7, a8, a9, a10, a11⟩ := h
  have hk : (zI M 633 20).toNatClampNeg = P.length := cl_n a9
  rw [hk]
  have F1 : FB [(633, 20)] [648] M (wF (wI M 648 P.length x) 633 20 (zI M 633 20 + 1)) := (FB.wI (by decide)).trans (FB.wF (by decide))
  refine ⟨F1.more (by decide) (by decide), a1.ki.kf, (F1.bR (by decide)).trans a2, by rw [F1.fi (by decide)]; exact a3, a4.frm F1 (by decide) (by decide) (by decide) (by decide) (by decide), a5, a6, by rw [F1.fi (by decide)]; exact a7, a8.frm F1 (by decide) (by decide) (by decide) (by decide), ?_, ⟨?_, ?_⟩, by rw [F1.fi (by decide)]; exact a11⟩
  · rw [fI_wF_eq a1.ki.1 qa_633 qi_61_20, i32_p1 (by omega), List.length_cons]
    omega
  · rw [rN_wF, rN_wI_eq (by rw [(a1.1.row qa_648 qw_76).2]; omega)]
  · have hq : ∀ (Q : List Int32), Q.length ≤ P.length → PLa M Q → PLa (wF (wI M 648 P.length x) 633 20 (zI M 633 20 + 1)) Q := by
      intro Q
      induction Q with
      | nil => intro _ _; trivial
      | cons y Q ih =>
        intro hl2 hp
        rw [List.length_cons] at hl2
        refine ⟨?_, ih (by omega) hp.2⟩
        rw [rN_wF, rN_wI_ne (fun q => by omega)]
        exact hp.1
    exact hq P (Nat.le_refl _) a10
/-- the binding ones off the pile -/
theorem RC.wdown {le : Int32} : ∀ (P : List Int32) (s : Sg) (M : Mem), RC B n M s P → Ev none e 175 0 [some (.ref 633), some (.int le)] [] M v M' 0 0 → v = none ∧ FB fQ wQ M M' ∧ RC B n M' (s.1, s.2.1, (wdP le P s.2.2).2) (wdP le P s.2.2).1 := by
  intro P
  have z0 : (0 : Int32).toInt = 0 := rfl
  induction P with
  | nil =>
    intro s M h H
    have h9 := h.2.2.2.2.2.2.2.2.1
    rcases wdq_0 h.1 H with ⟨_, g1, rfl⟩ | ⟨q, _⟩ | ⟨q, _⟩ | ⟨q, _⟩
    · exact ⟨g1, FB.refl _, h⟩
    all_goals exact absurd (Int32.le_iff_toInt_le.mpr (by rw [h9, z0]; exact Int.le_refl _)) q
  | cons x P ih =>
    intro s M h H
    have h9 := h.2.2.2.2.2.2.2.2.1
    rw [List.length_cons] at h9
    obtain ⟨t1, F1, R1⟩ := h.pop
    have hb : G_176 M x = bdI x := rfl
    unfold wdP
    rcases wdq_0 h.1 H with ⟨q, _⟩ | ⟨_, q, g1, rfl⟩ | ⟨_, q, q2, g1, rfl⟩ | ⟨_, q, q2, e1, v1, M1, he, H1, H⟩
    · rw [Int32.le_iff_toInt_le] at q
      omega
    · rw [t1] at q
      rw [if_pos (Or.inl q)]
      exact ⟨g1, FB.refl _, h⟩
    · rw [t1, hb] at q2
      rw [if_pos (Or.inr q2)]
      exact ⟨g1, FB.refl _, h⟩
    · rw [t1] at q q2
      rw [hb] at q2
      rw [if_neg (fun r => r.elim q q2)]
      rw [t1] at H1
      obtain ⟨rfl, F2, R2⟩ := R1.write H1
      have H := wdq_66 R2.1 H
      obtain ⟨g1, F3, R3⟩ := ih _ _ R2 H
      exact ⟨g1, (F1.trans F2).trans F3, R3⟩
theorem opS_le : ∀ P : List Int32, opS P ≤ P.length
  | [] => Nat.le_refl _
  | x :: Q => by
    have := opS_le Q
    unfold opS
    rw [List.length_cons]
    split <;> omega
theorem PLa.sfx : ∀ {P : List Int32}, PLa M P → ∀ m, m ≤ P.length → ∃ Q, Q.length = m ∧ PLa M Q ∧ ∃ L, P = L ++ Q := by
  intro P
  induction P with
  | nil =>
    intro h m hm
    exact ⟨[], by cases hm; rfl, h, [], rfl⟩
  | cons x P ih =>
    intro h m hm
    by_cases hq : m = (x :: P).length
    · exact ⟨x :: P, hq.symm, h, [], rfl⟩
    · rw [List.length_cons] at hm hq
      obtain ⟨Q, q1, q2, L, rfl⟩ := ih h.2 m (by omega)
      exact ⟨Q, q1, q2, x :: L, rfl⟩
/-- how many are not closed -/
theorem op_loop (h : RC B n M s P) : ∀ (j : Nat) (Q : List Int32) (nn k : Int32), (∃ L, P = L ++ Q) → Q.length + j = P.length → k.toInt = (Q.length : Int) → nn.toInt = (opS Q : Int) → Ev none e 177 4 [some (.ref 633), some (.int nn), some (.int k)] [] M v M' 0 0 → (∃ y : Int32, y.toInt = (opS P : Int) ∧ v = some (.int y)) ∧ M' = M := by
  intro j
  have h9 := h.2.2.2.2.2.2.2.2.1
  have o1 : (1 : Int32).toInt = 1 := rfl
  induction j with
  | zero =>
    intro Q nn k hQ hj hk hnn H
    obtain ⟨L, rfl⟩ := hQ
    rw [List.length_append] at hj
    have hL : L = [] := List.length_eq_zero_iff.mp (by omega)
    subst hL
    rcases op_4 h.1 H with ⟨_, g1, g2⟩ | ⟨q, _⟩ | ⟨q, _⟩ | ⟨q, _⟩
    · exact ⟨⟨nn, hnn, g1⟩, g2⟩
    all_goals exact absurd (Int32.le_iff_toInt_le.mpr (by rw [h9, hk]; exact Int.le_refl _)) q
  | succ j ih =>
    intro Q nn k hQ hj hk hnn H
    obtain ⟨Q2, q1, q2, L2, q3⟩ := h.2.2.2.2.2.2.2.2.2.1.sfx (Q.length + 1) (by omega)
    obtain ⟨L, hL⟩ := hQ
    cases Q2 with
    | nil => cases q1
    | cons x Q3 =>
      rw [List.length_cons] at q1
      have hQQ : Q3 = Q := by
        rw [hL] at q3
        have e1 : L ++ Q = (L2 ++ [x]) ++ Q3 := by rw [q3, List.append_assoc]; rfl
        exact ((List.append_inj' e1 (by omega)).2).symm
      subst hQQ
      have hkx : rI M 648 k = x := by rw [rI_n hk]; exact q2.1
      have hk1 : (k + 1).toInt = (((x :: Q3).length : Nat) : Int) := by rw [i32_p1 (by have := i32_any (zI M 633 20); omega), List.length_cons]; omega
      have hop := opS_le Q3
      have hnn1 : (nn + 1).toInt = (opS Q3 : Int) + 1 := by rw [i32_p1 (by have := i32_any (zI M 633 20); omega)]; omega
      rcases op_4 h.1 H with ⟨q, _⟩ | ⟨_, g1, H⟩ | ⟨_, g1, g2, H⟩ | ⟨_, g1, g2, H⟩
      · rw [Int32.le_iff_toInt_le] at q
        omega
      · rw [hkx] at g1
        refine ih (x :: Q3) _ _ ⟨L2, q3⟩ (by rw [List.length_cons]; omega) hk1 ?_ H
        rw [hnn1]
        show _ = ((opS Q3 + (if x = 20 ∨ x = 23 then 1 else 0) : Nat) : Int)
        rw [if_pos (Or.inl g1)]
        rfl
      · rw [hkx] at g2
        refine ih (x :: Q3) _ _ ⟨L2, q3⟩ (by rw [List.length_cons]; omega) hk1 ?_ H
        rw [hnn1]
        show _ = ((opS Q3 + (if x = 20 ∨ x = 23 then 1 else 0) : Nat) : Int)
        rw [if_pos (Or.inr g2)]
        rfl
      · rw [hkx] at g1 g2
        refine ih (x :: Q3) _ _ ⟨L2, q3⟩ (by rw [List.length_cons]; omega) hk1 ?_ H
        rw [Int32.add_zero, hnn]
        show _ = ((opS Q3 + (if x = 20 ∨ x = 23 then 1 else 0) : Nat) : Int)
        rw [if_neg (fun q => q.elim g1 g2)]
        rfl
theorem RC.opn (h : RC B n M s P) (H : Ev none e 177 0 [some (.ref 633), none, none] [] M v M' 0 0) : (∃ y : Int32, y.toInt = (opS P : Int) ∧ v = some (.int y)) ∧ M' = M := by
  have H := op_0 h.1 H
  exact op_loop h P.length [] 0 0 ⟨P, (List.append_nil P).symm⟩ (by rw [List.length_nil]; omega) rfl rfl H
/-- whether one is not closed -/
theorem ioq_loop (h : RC B n M s P) : ∀ (j : Nat) (Q : List Int32) (k : Int32), (∃ L, P = L ++ Q) → Q.length + j = P.length → k.toInt = (Q.length : Int) → (∀ x ∈ Q, x ≠ 23) → Ev none e 178 2 [some (.ref 633), some (.int k)] [] M v M' 0 0 → ((v = some (.int 1) ∧ 23 ∈ P) ∨ (v = some (.int 0) ∧ 23 ∉ P)) ∧ M' = M := by
  intro j
  have h9 := h.2.2.2.2.2.2.2.2.1
  induction j with
  | zero =>
    intro Q k hQ hj hk hno H
    obtain ⟨L, rfl⟩ := hQ
    rw [List.length_append] at hj
    have hL : L = [] := List.length_eq_zero_iff.mp (by omega)
    subst hL
    rcases ioq_2 h.1 H with ⟨_, g1, g2⟩ | ⟨q, _⟩ | ⟨q, _⟩
    · exact ⟨Or.inr ⟨g1, fun q => hno 23 q rfl⟩, g2⟩
    all_goals exact absurd (Int32.le_iff_toInt_le.mpr (by rw [h9, hk]; exact Int.le_refl _)) q
  | succ j ih =>
    intro Q k hQ hj hk hno H
    obtain ⟨Q2, q1, q2, L2, q3⟩ := h.2.2.2.2.2.2.2.2.2.1.sfx (Q.length + 1) (by omega)
    obtain ⟨L, hL⟩ := hQ
    cases Q2 with
    | nil => cases q1
    | cons x Q3 =>
      rw [List.length_cons] at q1
      have hQQ : Q3 = Q := by
        rw [hL] at q3
        have e1 : L ++ Q = (L2 ++ [x]) ++ Q3 := by rw [q3, List.append_assoc]; rfl
        exact ((List.append_inj' e1 (by omega)).2).symm
      subst hQQ
      have hkx : rI M 648 k = x := by rw [rI_n hk]; exact q2.1
      have hk1 : (k + 1).toInt = (((x :: Q3).length : Nat) : Int) := by rw [i32_p1 (by have := i32_any (zI M 633 20); omega), List.length_cons]; omega
      rcases ioq_2 h.1 H with ⟨q, _⟩ | ⟨_, g1, g2, g3⟩ | ⟨_, g1, H⟩
      · rw [Int32.le_iff_toInt_le] at q
        omega
      · rw [hkx] at g1
        refine ⟨Or.inl ⟨g2, ?_⟩, g3⟩
        rw [q3, g1]
        exact List.mem_append_right _ List.mem_cons_self
      · rw [hkx] at g1
        refine ih (x :: Q3) _ ⟨L2, q3⟩ (by rw [List.length_cons]; omega) hk1 (fun y hy => ?_) H
        rcases List.mem_cons.mp hy with rfl | hy
        · exact g1
        · exact hno y hy
theorem RC.isOpen (h : RC B n M s P) (H : Ev none e 178 0 [some (.ref 633), none] [] M v M' 0 0) : ((v = some (.int 1) ∧ 23 ∈ P) ∨ (v = some (.int 0) ∧ 23 ∉ P)) ∧ M' = M := by
  have H := ioq_0 h.1 H
  exact ioq_loop h P.length [] 0 ⟨P, (List.append_nil P).symm⟩ (by rw [List.length_nil]; omega) rfl (fun x hx => by cases hx) H
end RST
