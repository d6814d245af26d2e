/-! THE REFERENCE'S one, all of it -/
section MAE
variable {n : Nat} {B : Nat → Int32}
theorem ixP_mem {w : List Int32} : ∀ l : List (List Int32 × Int32), (ixP w l = -1) ∨ ∃ q ∈ l, w = q.1 ∧ ixP w l = q.2 := by
  intro l
  induction l with
  | nil => exact Or.inl rfl
  | cons q r ih =>
    obtain ⟨u, i⟩ := q
    show (if w = u then i else ixP w r) = -1 ∨ ∃ q ∈ (u, i) :: r, w = q.1 ∧ (if w = u then i else ixP w r) = q.2
    by_cases h : w = u
    · rw [if_pos h]
      exact Or.inr ⟨(u, i), List.mem_cons_self, h, rfl⟩
    · rw [if_neg h]
      rcases ih with h2 | ⟨q, h2, h3⟩
      · exact Or.inl h2
      · exact Or.inr ⟨q, List.mem_cons_of_mem _ h2, h3⟩
theorem ato_bd : ∀ q ∈ atoL, 0 ≤ q.2.toInt ∧ q.2.toInt ≤ 11 := by decide
theorem ato_not : ixP notW atoL = -1 := by decide +kernel
theorem ato_ne : ∀ q ∈ atoL, q.1 ≠ [] := by decide
theorem mone_ok {C O : Nat → Sg → PR} {D DC DO : Nat → Prop} (hD : ∀ dep, dep ≤ 10 → D dep → DC (dep + 1) ∧ DO (dep + 1)) (hn2 : n ≤ 440) (hC : MCon B n DC C) (hO : MOne B n DO O) (gC : ∀ dep s s2, C dep s = .inl s2 → Gw s s2) (gO : ∀ dep s s2, O dep s = .inl s2 → Gw s s2) : MOne B n D (oneB B C O) := by
  intro d dep s P M M' v hdD hdep hd11 hR h40 hE
  obtain ⟨c0, c1, c2, c3, v1, M1, H1, H⟩ := hE
  have z0 : (0 : Int32).toInt = 0 := rfl
  have o40 : (40 : Int32).toInt = 40 := rfl
  have h21 := hR.2.2.2.2.2.2.1
  have hT := hR.2.2.2.1
  have hg := hR.2.2.2.2.2.1
  have hx := one_ix (wdS B (hdT s.1))
  have hat := hT.atom hg
  have hones : (zI M 633 21 = 40) ↔ 40 ≤ s.2.1 := ⟨fun q => by rw [q] at h21; omega, fun q => Int32.toInt_inj.mp (by omega)⟩
  have hword := hT.word hg (u := notW) (C := 7237492) (by decide) (by decide +kernel)
  have h40s := hT.sign (c := 40) (by decide)
  have hab : G_173 M = -1 ∨ (0 ≤ (G_173 M).toInt ∧ (G_173 M).toInt ≤ 11 ∧ (hdT s.1).1 = 2) := by
    rw [hat]
    rcases ixP_mem (w := wdS B (hdT s.1)) atoL with q | ⟨q, q1, q2, q3⟩
    · exact Or.inl q
    · have := ato_bd q q1
      rw [q3]
      exact Or.inr ⟨this.1, this.2, wd_ne q2 (ato_ne q q1)⟩
  have hle : ∀ {x : Int32}, x = -1 ∨ 0 ≤ x.toInt → (0 ≤ x ↔ ¬ x = -1) := fun {x} q => by
    rw [Int32.le_iff_toInt_le]
    refine ⟨fun r e => by rw [e] at r; revert r; decide, fun r => ?_⟩
    rcases q with q | q
    · exact absurd q r
    · omega
  have hle2 := hle (x := G_173 M) (hab.elim Or.inl (fun q => Or.inr q.1))
  -- the spec's conditions
  have hneg : ixF (wdS B (hdT s.1)) oneW 0 < 0 ↔ (G_164 M 7237492 = 0 ∧ G_173 M = -1) := by
    rw [hx]
    rcases hword with ⟨q1, q2⟩ | ⟨q1, q2⟩
    · rw [if_pos q2, q1]
      exact ⟨fun q => absurd q (by decide), fun q => absurd q.1 (by decide)⟩
    · rw [if_neg q2, q1, ← hat]
      refine ⟨fun q => ⟨rfl, ?_⟩, fun q => by rw [q.2]; decide⟩
      rcases hab with h | ⟨h, _⟩
      · exact h
      · rw [Int32.lt_iff_toInt_lt] at q
        omega
  have h12 : ixF (wdS B (hdT s.1)) oneW 0 = 12 ↔ G_164 M 7237492 = 1 := by
    rw [hx]
    rcases hword with ⟨q1, q2⟩ | ⟨q1, q2⟩
    · rw [if_pos q2, q1]
      exact ⟨fun _ => rfl, fun _ => rfl⟩
    · rw [if_neg q2, q1, ← hat]
      refine ⟨fun q => ?_, fun q => absurd q (by decide)⟩
      rcases hab with h | ⟨_, h, _⟩
      · rw [q] at h; exact absurd h (by decide)
      · rw [q] at h; exact absurd h (by decide)
  have heq : G_164 M 7237492 ≠ 1 → ixF (wdS B (hdT s.1)) oneW 0 = G_173 M := fun q => by
    rw [hx]
    rcases hword with ⟨q1, q2⟩ | ⟨q1, q2⟩
    · exact absurd q1 q
    · rw [if_neg q2, hat]
  have hnt : (G_164 M 7237492 = 1 ∧ G_173 M = -1) ∨ (G_164 M 7237492 = 0 ∧ (G_173 M = -1 ∨ (0 ≤ (G_173 M).toInt ∧ (G_173 M).toInt ≤ 11))) := by
    rcases hword with ⟨q1, q2⟩ | ⟨q1, q2⟩
    · exact Or.inl ⟨q1, by rw [hat, q2]; exact ato_not⟩
    · exact Or.inr ⟨q1, hab.elim Or.inl (fun q => Or.inr ⟨q.1, q.2.1⟩)⟩
  unfold oneB
  -- a fault of kind 4
  have f4 : ∀ {e : Nat} {v3 : Option Value} {M3 : Mem} {r : PR}, ¬ (ixF (wdS B (hdT s.1)) oneW 0 < 0 ∧ (hdT s.1).1 ≠ 40) → (40 ≤ s.2.1 ∨ 10 < dep) → Ev none e 163 0 [some (.ref 633), some (.int 4)] [] M v3 M3 0 0 → Ev none d 180 59 [some (.ref 633), some (.int (G_164 M 7237492)), some (.int (G_173 M)), c3] (v3.toList ++ []) M3 v1 M1 0 0 → (match (if ixF (wdS B (hdT s.1)) oneW 0 < 0 ∧ (hdT s.1).1 ≠ 40 then (.inr (1, (hdT s.1).2.1) : PR) else if 40 ≤ s.2.1 ∨ 10 < dep then .inr (4, (hdT s.1).2.1) else r) with
  | .inr f => FLT M M' v f
  | .inl s2 => ∃ M2, FB fQ wQ M M2 ∧ RC B n M2 (s2.1, s2.2.1, (wdP 3 P s2.2.2).2) (wdP 3 P s2.2.2).1 ∧ BST d M2 M' v) := by
    intro e v3 M3 r k1 k2 H3 H2
    rw [if_neg k1, if_pos k2]
    exact bad_end hR H3 (fun y hy S => by subst hy; exact oe_59 S H2) H
  -- on, if there are not too many
  have on : ∀ {e : Nat} {v3 : Option Value} {M3 : Mem}, ¬ (ixF (wdS B (hdT s.1)) oneW 0 < 0 ∧ (hdT s.1).1 ≠ 40) → ¬ 40 ≤ s.2.1 → Ev none e 177 0 [some (.ref 633), none, none] [] M v3 M3 0 0 → Ev none d 180 49 [some (.ref 633), some (.int (G_164 M 7237492)), some (.int (G_173 M)), c3] (v3.toList ++ []) M3 v1 M1 0 0 → (match (if ixF (wdS B (hdT s.1)) oneW 0 < 0 ∧ (hdT s.1).1 ≠ 40 then (.inr (1, (hdT s.1).2.1) : PR) else if 40 ≤ s.2.1 ∨ 10 < dep then .inr (4, (hdT s.1).2.1) else if ixF (wdS B (hdT s.1)) oneW 0 < 0 then (match C (dep + 1) (s.1.tail, s.2.1 + 1, s.2.2) with
    | .inr f => .inr f
    | .inl s2 => if (hdT s2.1).1 ≠ 41 then .inr (1, (hdT s2.1).2.1) else .inl (s2.1.tail, s2.2.1, s2.2.2))
  else if ixF (wdS B (hdT s.1)) oneW 0 = 12 then (match O (dep + 1) (s.1.tail, s.2.1 + 1, s.2.2) with
    | .inr f => .inr f
    | .inl s2 => .inl (s2.1, s2.2.1, s2.2.2 ++ [(20, 0, 0)]))
  else if 8 ≤ ixF (wdS B (hdT s.1)) oneW 0 then cmpS (ixF (wdS B (hdT s.1)) oneW 0) (s.1.tail, s.2.1 + 1, s.2.2)
  else .inl (s.1.tail, s.2.1 + 1, s.2.2 ++ [(ixF (wdS B (hdT s.1)) oneW 0, 0, 0)])) with
  | .inr f => FLT M M' v f
  | .inl s2 => ∃ M2, FB fQ wQ M M2 ∧ RC B n M2 (s2.1, s2.2.1, (wdP 3 P s2.2.2).2) (wdP 3 P s2.2.2).1 ∧ BST d M2 M' v) := by
    intro e v3 M3 k1 k2 H3 H2
    obtain ⟨⟨y, hy, rfl⟩, rfl⟩ := hR.opn H3
    have o10 : (10 : Int32).toInt = 10 := rfl
    rcases oe_49 hR.1 H2 with ⟨q, e2, v4, M4, rfl, H4, H2⟩ | ⟨q, e2, v4, M4, rfl, H4, H2⟩
    · rw [if_neg k1, if_pos (Or.inr (by rw [q] at hy; omega))]
      exact bad_end hR H4 (fun y hy S => by subst hy; exact oe_59 S H2) H
    · have hd10 : dep ≤ 10 := by
        by_cases hq : dep ≤ 10
        · exact hq
        · exact absurd (Int32.toInt_inj.mp (by omega)) q
      rw [if_neg k1, if_neg (fun q => q.elim k2 (by omega))]
      obtain ⟨F1, R1⟩ := hR.ones (by omega)
      have hty : (hdT s.1).1 = 2 ∨ (hdT s.1).1 = 40 := by
        by_cases q4 : (hdT s.1).1 = 40
        · exact Or.inr q4
        · left
          rcases hword with ⟨_, q2⟩ | ⟨q1, q2⟩
          · exact wd_ne q2 (by decide)
          · rcases hab with h | ⟨_, _, h⟩
            · exact absurd ⟨hneg.mpr ⟨q1, h⟩, q4⟩ k1
            · exact h
      obtain ⟨rfl, F2, R2⟩ := R1.next hn2 (hty.elim (fun q => by rw [show (hdT (s.1, s.2.1 + 1, s.2.2).1).1 = 2 from q]; decide) (fun q => by rw [show (hdT (s.1, s.2.1 + 1, s.2.2).1).1 = 40 from q]; decide)) (hty.elim (fun q => by rw [show (hdT (s.1, s.2.1 + 1, s.2.2).1).1 = 2 from q]; decide) (fun q => by rw [show (hdT (s.1, s.2.1 + 1, s.2.2).1).1 = 40 from q]; decide)) H4
      have h := one_74 hn2 hC hO gC gO (hD dep hd10 hdD).1 (hD dep hd10 hdD).2 hdep hd10 R2 (by dsimp only; omega) hnt H2 H
      have he : (if ixF (wdS B (hdT s.1)) oneW 0 < 0 then (match C (dep + 1) (s.1.tail, s.2.1 + 1, s.2.2) with
    | .inr f => .inr f
    | .inl s2 => if (hdT s2.1).1 ≠ 41 then .inr (1, (hdT s2.1).2.1) else .inl (s2.1.tail, s2.2.1, s2.2.2))
  else if ixF (wdS B (hdT s.1)) oneW 0 = 12 then (match O (dep + 1) (s.1.tail, s.2.1 + 1, s.2.2) with
    | .inr f => .inr f
    | .inl s2 => .inl (s2.1, s2.2.1, s2.2.2 ++ [(20, 0, 0)]))
  else if 8 ≤ ixF (wdS B (hdT s.1)) oneW 0 then cmpS (ixF (wdS B (hdT s.1)) oneW 0) (s.1.tail, s.2.1 + 1, s.2.2)
  else .inl (s.1.tail, s.2.1 + 1, s.2.2 ++ [(ixF (wdS B (hdT s.1)) oneW 0, 0, 0)]) : PR) = (if G_164 M3 7237492 = 0 ∧ G_173 M3 = -1 then (match C (dep + 1) (s.1.tail, s.2.1 + 1, s.2.2) with
    | .inr f => .inr f
    | .inl s2 => if (hdT s2.1).1 ≠ 41 then .inr (1, (hdT s2.1).2.1) else .inl (s2.1.tail, s2.2.1, s2.2.2))
  else if G_164 M3 7237492 = 1 then (match O (dep + 1) (s.1.tail, s.2.1 + 1, s.2.2) with
    | .inr f => .inr f
    | .inl s2 => .inl (s2.1, s2.2.1, s2.2.2 ++ [(20, 0, 0)]))
  else if 8 ≤ G_173 M3 then cmpS (G_173 M3) (s.1.tail, s.2.1 + 1, s.2.2)
  else .inl (s.1.tail, s.2.1 + 1, s.2.2 ++ [(G_173 M3, 0, 0)])) := by
        by_cases q1 : ixF (wdS B (hdT s.1)) oneW 0 < 0
        · rw [if_pos q1, if_pos (hneg.mp q1)]
        · rw [if_neg q1, if_neg (fun x => q1 (hneg.mpr x))]
          by_cases q2 : ixF (wdS B (hdT s.1)) oneW 0 = 12
          · rw [if_pos q2, if_pos (h12.mp q2)]
          · have q3 : G_164 M3 7237492 ≠ 1 := fun x => q2 (h12.mpr x)
            rw [if_neg q2, if_neg q3, heq q3]
      rw [he]
      revert h
      generalize (if G_164 M3 7237492 = 0 ∧ G_173 M3 = -1 then (match C (dep + 1) (s.1.tail, s.2.1 + 1, s.2.2) with
    | .inr f => .inr f
    | .inl s2 => if (hdT s2.1).1 ≠ 41 then .inr (1, (hdT s2.1).2.1) else .inl (s2.1.tail, s2.2.1, s2.2.2))
  else if G_164 M3 7237492 = 1 then (match O (dep + 1) (s.1.tail, s.2.1 + 1, s.2.2) with
    | .inr f => .inr f
    | .inl s2 => .inl (s2.1, s2.2.1, s2.2.2 ++ [(20, 0, 0)]))
  else if 8 ≤ G_173 M3 then cmpS (G_173 M3) (s.1.tail, s.2.1 + 1, s.2.2)
  else .inl (s.1.tail, s.2.1 + 1, s.2.2 ++ [(G_173 M3, 0, 0)]) : PR) = r
      intro h
      cases r with
      | inr f => exact FLT.pre (F1.trans F2) h
      | inl s2 =>
        obtain ⟨M4, F3, R3, hB⟩ := h
        exact ⟨M4, (F1.trans F2).trans F3, R3, hB⟩
  have ok : G_164 M 7237492 = 0 → ¬ 0 ≤ G_173 M → (hdT s.1).1 = 40 → ¬ (ixF (wdS B (hdT s.1)) oneW 0 < 0 ∧ (hdT s.1).1 ≠ 40) := fun _ _ q x => x.2 q
  have ok2 : 0 ≤ G_173 M → ¬ (ixF (wdS B (hdT s.1)) oneW 0 < 0 ∧ (hdT s.1).1 ≠ 40) := fun q x => (hle2.mp q) (hneg.mp x.1).2
  have ok3 : ¬ G_164 M 7237492 = 0 → ¬ (ixF (wdS B (hdT s.1)) oneW 0 < 0 ∧ (hdT s.1).1 ≠ 40) := fun q x => q (hneg.mp x.1).1
  have s40 : ¬ G_165 M 40 = 0 → (hdT s.1).1 = 40 := fun q => h40s.elim (fun x => x.2.1) (fun x => absurd x.1 q)
  rcases oe_0 hR.1 H1 with ⟨g1, g2, g3, e1, v3, M3, rfl, H3, H2⟩ | ⟨g1, g2, g3, e1, v3, M3, rfl, H3, H2⟩ | ⟨g1, g2, g3, e1, v3, M3, rfl, H3, H2⟩ | ⟨g1, g2, g3, g4, e1, v3, M3, rfl, H3, H2⟩ | ⟨g1, g2, g3, g4, e1, v3, M3, rfl, H3, H2⟩ | ⟨g1, g3, e1, v3, M3, rfl, H3, H2⟩ | ⟨g1, g3, e1, v3, M3, rfl, H3, H2⟩
  · exact f4 (ok2 g2) (Or.inl (hones.mp g3)) H3 H2
  · exact on (ok2 g2) (fun q => g3 (hones.mpr q)) H3 H2
  · have q4 : (hdT s.1).1 ≠ 40 := by
      rcases h40s with ⟨q, _⟩ | ⟨_, q⟩
      · rw [q] at g3; exact absurd g3 (by decide)
      · exact q
    have qa : G_173 M = -1 := by
      rcases hab with q | ⟨q, _⟩
      · exact q
      · exact absurd (by rw [Int32.le_iff_toInt_le]; exact q) g2
    rw [if_pos ⟨hneg.mpr ⟨g1, qa⟩, q4⟩]
    exact bad_end hR H3 (fun y hy S => by subst hy; exact oe_35 S H2) H
  · exact f4 (ok g1 g2 (s40 g3)) (Or.inl (hones.mp g4)) H3 H2
  · exact on (ok g1 g2 (s40 g3)) (fun q => g4 (hones.mpr q)) H3 H2
  · exact f4 (ok3 g1) (Or.inl (hones.mp g3)) H3 H2
  · exact on (ok3 g1) (fun q => g3 (hones.mpr q)) H3 H2
end MAE
/-! THE REFERENCE'S all and cond -/
section MAF
variable {n : Nat} {B : Nat → Int32}
theorem wdP_2 {P : List Int32} (hP : P = [] ∨ (∃ Q, P = 23 :: Q) ∨ ∃ Q, P = 22 :: Q) : ∀ (pend : List Int32) (cs : List Cdq), (∀ x ∈ pend, x = 21) → wdP 2 (pend ++ P) cs = (P, cs ++ opsC pend) := by
  intro pend
  induction pend with
  | nil =>
    intro cs _
    rcases hP with rfl | ⟨Q, rfl⟩ | ⟨Q, rfl⟩
    · show ([], cs) = ([], cs ++ [])
      rw [List.append_nil]
    · show (if (23 : Int32) = 23 ∨ bdI 23 < 2 then ((23 : Int32) :: Q, cs) else _) = _
      rw [if_pos (Or.inl rfl)]
      show _ = (_, cs ++ [])
      rw [List.append_nil]
    · show (if (22 : Int32) = 23 ∨ bdI 22 < 2 then ((22 : Int32) :: Q, cs) else _) = _
      rw [if_pos (Or.inr (by decide))]
      show _ = (_, cs ++ [])
      rw [List.append_nil]
  | cons x pend ih =>
    intro cs h
    show (if x = 23 ∨ bdI x < 2 then (x :: (pend ++ P), cs) else wdP 2 (pend ++ P) (cs ++ [(x, 0, 0)])) = _
    have hx : ¬ (x = 23 ∨ bdI x < 2) := by
      rw [h x List.mem_cons_self]
      decide
    rw [if_neg hx, ih _ (fun y hy => h y (List.mem_cons_of_mem _ hy)), List.append_assoc]
    rfl
theorem top_3 {P : List Int32} (hP : P = [] ∨ (∃ Q, P = 23 :: Q) ∨ ∃ Q, P = 22 :: Q) : P = [] ∨ ∃ x Q, P = x :: Q ∧ x ≠ 20 := by
  rcases hP with h | ⟨Q, h⟩ | ⟨Q, h⟩
  · exact Or.inl h
  · exact Or.inr ⟨23, Q, h, by decide⟩
  · exact Or.inr ⟨22, Q, h, by decide⟩
/-- from behind an ONE: no bracket closes -/
theorem bst_57 {d : Nat} {M M' : Mem} {v : Option Value} {s : Sg} {P : List Int32} (hR : RC B n M s P) (h41 : (hdT s.1).1 ≠ 41) (hB : BST d M M' v) : ∃ c0, Ev none (d + 1) 179 57 [some (.ref 633), c0] [] M v M' 0 0 := by
  obtain ⟨c0, hB⟩ := hB
  rcases ceq_14 hR.1 hB with ⟨_, hB⟩ | ⟨q, _⟩
  · exact ⟨c0, hB⟩
  · rcases hR.2.2.2.1.sign (c := 41) (by decide) with ⟨_, q2, _⟩ | ⟨q2, _⟩
    · exact absurd q2 h41
    · exact absurd q2 q
theorem all_loop {O : Nat → Sg → PR} {D : Nat → Prop} (hn2 : n ≤ 440) (hO : MOne B n D O) (gO : ∀ dep s s2, O dep s = .inl s2 → Gw s s2) {d dep : Nat} {P : List Int32} {M' : Mem} {v : Option Value} (hdD : D dep) (hdep : opS P + 1 = dep) (hd11 : dep ≤ 11) (hP : P = [] ∨ (∃ Q, P = 23 :: Q) ∨ ∃ Q, P = 22 :: Q) : ∀ (j : Nat) (s : Sg) (M : Mem) (pend : List Int32) (c : List Cdq), (∀ x ∈ pend, x = (21 : Int32)) → s.2.2 = c ++ opsC pend → RC B n M (s.1, s.2.1, c) (pend ++ P) → BST d M M' v → 41 ≤ s.2.1 + j → s.2.1 ≤ 40 → match mrB B andW 21 O dep j s with
  | .inr f => FLT M M' v f
  | .inl s2 => ∃ M2 pend c, (∀ x ∈ pend, x = (21 : Int32)) ∧ s2.2.2 = c ++ opsC pend ∧ wdS B (hdT s2.1) ≠ andW ∧ FB fQ wQ M M2 ∧ RC B n M2 (s2.1, s2.2.1, c) (pend ++ P) ∧ BST d M2 M' v := by
  intro j
  induction j with
  | zero => intro s M pend c _ _ _ _ h1 h2; omega
  | succ j ih =>
    intro s M pend c hp hc hR hB h1 h2
    unfold mrB
    by_cases hw : wdS B (hdT s.1) = andW
    rotate_left
    · rw [if_neg hw]
      exact ⟨M, pend, c, hp, hc, hw, FB.refl M, hR, hB⟩
    rw [if_pos hw]
    have h2t := wd_ne hw (by decide)
    obtain ⟨c0, hB⟩ := bst_57 hR (by rw [show (hdT (s.1, s.2.1, c).1).1 = 2 from h2t]; decide) hB
    have an1 : G_164 M 6385252 = 1 := by
      rcases hR.2.2.2.1.word hR.2.2.2.2.2.1 (u := andW) (C := 6385252) (by decide) (by decide +kernel) with ⟨q, _⟩ | ⟨_, q⟩
      · exact q
      · exact absurd hw q
    rcases ceq_57 hR.1 hB with ⟨q, _⟩ | ⟨q, _⟩ | ⟨_, e1, v1, M1, _, H1, hB⟩
    · rw [an1] at q; exact absurd q (by decide)
    · rw [an1] at q; exact absurd q (by decide)
    obtain ⟨rfl, F1, R1⟩ := RC.wdown _ _ _ hR H1
    rw [show (s.1, s.2.1, c).2.2 = c from rfl, wdP_2 hP pend c hp, ← hc] at R1
    rw [an1] at hB
    rcases ceq_112 R1.1 hB with ⟨q, _⟩ | ⟨_, ⟨_, q⟩, e2, v2, M2, _, H2, hB⟩
    · exact absurd q (by decide)
    obtain ⟨F2, R2⟩ := R1.push (x := 21) q
    obtain ⟨rfl, F3, R3⟩ := R2.next hn2 (by rw [show (hdT (s.1, s.2.1, s.2.2).1).1 = 2 from h2t]; decide) (by rw [show (hdT (s.1, s.2.1, s.2.2).1).1 = 2 from h2t]; decide) H2
    have hB := ceq_146 R3.1 hB
    obtain ⟨e3, v3, M3, he, H3, hB⟩ := ceq_5 R3.1 hB
    cases he
    have h := hO d dep (s.1.tail, s.2.1, s.2.2) (21 :: P) _ M' v hdD hdep hd11 R3 h2 ⟨_, _, _, _, v3, M3, H3, hB⟩
    cases hr : O dep (s.1.tail, s.2.1, s.2.2) with
    | inr f =>
      rw [hr] at h
      exact FLT.pre ((F1.trans F2).trans F3) h
    | inl s2 =>
      rw [hr] at h
      obtain ⟨M4, F4, R4, hB⟩ := h
      rw [wdP_3 (Or.inr ⟨21, P, rfl, by decide⟩)] at R4
      obtain ⟨g1, g2, _⟩ := gO _ _ _ hr
      dsimp only at g1
      have h9 := ih (s2.1, s2.2.1, s2.2.2 ++ [(21, 0, 0)]) M4 [21] s2.2.2 (fun x hx => List.mem_singleton.mp hx) rfl R4 hB (by dsimp only; omega) g2
      show match mrB B andW 21 O dep j (s2.1, s2.2.1, s2.2.2 ++ [(21, 0, 0)]) with
        | .inr f => FLT M M' v f
        | .inl s2 => ∃ M2 pend c, (∀ x ∈ pend, x = (21 : Int32)) ∧ s2.2.2 = c ++ opsC pend ∧ wdS B (hdT s2.1) ≠ andW ∧ FB fQ wQ M M2 ∧ RC B n M2 (s2.1, s2.2.1, c) (pend ++ P) ∧ BST d M2 M' v
      revert h9
      generalize mrB B andW 21 O dep j (s2.1, s2.2.1, s2.2.2 ++ [(21, 0, 0)]) = r
      intro h9
      cases r with
      | inr f => exact FLT.pre (((F1.trans F2).trans F3).trans F4) h9
      | inl s5 =>
        obtain ⟨M5, p5, c5, k1, k2, k3, k4, k5, k6⟩ := h9
        exact ⟨M5, p5, c5, k1, k2, k3, (((F1.trans F2).trans F3).trans F4).trans k4, k5, k6⟩
theorem mall_ok {O : Nat → Sg → PR} {D : Nat → Prop} (hn2 : n ≤ 440) (hO : MOne B n D O) (gO : ∀ dep s s2, O dep s = .inl s2 → Gw s s2) : MAll B n D (allB B O) := by
  intro d dep s P M M' v hdD hdep hd11 hP hR h40 hE
  have h := hO d dep s P M M' v hdD hdep hd11 hR h40 hE
  unfold allB
  cases hr : O dep s with
  | inr f =>
    rw [hr] at h
    exact h
  | inl s2 =>
    rw [hr] at h
    obtain ⟨M4, F4, R4, hB⟩ := h
    rw [wdP_3 (top_3 hP)] at R4
    obtain ⟨g1, g2, _⟩ := gO _ _ _ hr
    have h9 := all_loop (d := d) hn2 hO gO hdD hdep hd11 hP 40 s2 M4 [] s2.2.2 (fun x hx => by cases hx) (List.append_nil _).symm R4 hB (by omega) g2
    show match mrB B andW 21 O dep 40 s2 with
      | .inr f => FLT M M' v f
      | .inl s2 => ∃ M2 pend c, (∀ x ∈ pend, x = (21 : Int32)) ∧ s2.2.2 = c ++ opsC pend ∧ wdS B (hdT s2.1) ≠ andW ∧ FB fQ wQ M M2 ∧ RC B n M2 (s2.1, s2.2.1, c) (pend ++ P) ∧ BST d M2 M' v
    revert h9
    generalize mrB B andW 21 O dep 40 s2 = r
    intro h9
    cases r with
    | inr f => exact FLT.pre F4 h9
    | inl s5 =>
      obtain ⟨M5, p5, c5, k1, k2, k3, k4, k5, k6⟩ := h9
      exact ⟨M5, p5, c5, k1, k2, k3, F4.trans k4, k5, k6⟩
theorem con_loop {A : Nat → Sg → PR} {D : Nat → Prop} (hn2 : n ≤ 440) (hA : MAll B n D A) (gA : ∀ dep s s2, A dep s = .inl s2 → Gw s s2) {d dep : Nat} {P : List Int32} {M' : Mem} {v : Option Value} (hdD : D dep) (hdep : opS P + 1 = dep) (hd11 : dep ≤ 11) (hP : P = [] ∨ ∃ Q, P = 23 :: Q) : ∀ (j : Nat) (s : Sg) (M : Mem) (pend : List Int32) (c : List Cdq), (∀ x ∈ pend, x = (21 : Int32) ∨ x = 22) → s.2.2 = c ++ opsC pend → wdS B (hdT s.1) ≠ andW → RC B n M (s.1, s.2.1, c) (pend ++ P) → BST d M M' v → 41 ≤ s.2.1 + j → s.2.1 ≤ 40 → match mrB B orW 22 A dep j s with
  | .inr f => FLT M M' v f
  | .inl s2 => ∃ M2 pend c, (∀ x ∈ pend, x = (21 : Int32) ∨ x = 22) ∧ s2.2.2 = c ++ opsC pend ∧ wdS B (hdT s2.1) ≠ andW ∧ wdS B (hdT s2.1) ≠ orW ∧ FB fQ wQ M M2 ∧ RC B n M2 (s2.1, s2.2.1, c) (pend ++ P) ∧ BST d M2 M' v := by
  intro j
  induction j with
  | zero => intro s M pend c _ _ _ _ _ h1 h2; omega
  | succ j ih =>
    intro s M pend c hp hc hna hR hB h1 h2
    unfold mrB
    by_cases hw : wdS B (hdT s.1) = orW
    rotate_left
    · rw [if_neg hw]
      exact ⟨M, pend, c, hp, hc, hna, hw, FB.refl M, hR, hB⟩
    rw [if_pos hw]
    have h2t := wd_ne hw (by decide)
    obtain ⟨c0, hB⟩ := bst_57 hR (by rw [show (hdT (s.1, s.2.1, c).1).1 = 2 from h2t]; decide) hB
    have an0 : G_164 M 6385252 = 0 := by
      rcases hR.2.2.2.1.word hR.2.2.2.2.2.1 (u := andW) (C := 6385252) (by decide) (by decide +kernel) with ⟨_, q⟩ | ⟨q, _⟩
      · exact absurd q hna
      · exact q
    have or1 : G_164 M 28530 = 1 := by
      rcases hR.2.2.2.1.word hR.2.2.2.2.2.1 (u := orW) (C := 28530) (by decide) (by decide +kernel) with ⟨q, _⟩ | ⟨_, q⟩
      · exact q
      · exact absurd hw q
    rcases ceq_57 hR.1 hB with ⟨_, q, _⟩ | ⟨_, _, e1, v1, M1, _, H1, hB⟩ | ⟨q, _⟩
    · rw [or1] at q; exact absurd q (by decide)
    rotate_left
    · exact absurd an0 q
    obtain ⟨rfl, F1, R1⟩ := RC.wdown _ _ _ hR H1
    rw [show (s.1, s.2.1, c).2.2 = c from rfl, wdP_1 hP pend c hp, ← hc] at R1
    rw [an0] at hB
    rcases ceq_112 R1.1 hB with ⟨_, ⟨_, q⟩, e2, v2, M2, _, H2, hB⟩ | ⟨q, _⟩
    rotate_left
    · exact absurd rfl q
    obtain ⟨F2, R2⟩ := R1.push (x := 22) q
    obtain ⟨rfl, F3, R3⟩ := R2.next hn2 (by rw [show (hdT (s.1, s.2.1, s.2.2).1).1 = 2 from h2t]; decide) (by rw [show (hdT (s.1, s.2.1, s.2.2).1).1 = 2 from h2t]; decide) H2
    have hB := ceq_146 R3.1 hB
    obtain ⟨e3, v3, M3, he, H3, hB⟩ := ceq_5 R3.1 hB
    cases he
    have h := hA d dep (s.1.tail, s.2.1, s.2.2) (22 :: P) _ M' v hdD hdep hd11 (Or.inr (Or.inr ⟨P, rfl⟩)) R3 h2 ⟨_, _, _, _, v3, M3, H3, hB⟩
    cases hr : A dep (s.1.tail, s.2.1, s.2.2) with
    | inr f =>
      rw [hr] at h
      exact FLT.pre ((F1.trans F2).trans F3) h
    | inl s2 =>
      rw [hr] at h
      obtain ⟨M4, p4, c4, y1, y2, y3, F4, R4, hB⟩ := h
      obtain ⟨g1, g2, _⟩ := gA _ _ _ hr
      dsimp only at g1
      have h9 := ih (s2.1, s2.2.1, s2.2.2 ++ [(22, 0, 0)]) M4 (p4 ++ [22]) c4 (fun x hx => by
        rcases List.mem_append.mp hx with hx | hx
        · exact Or.inl (y1 x hx)
        · exact Or.inr (List.mem_singleton.mp hx)) (by
        show s2.2.2 ++ [(22, 0, 0)] = c4 ++ opsC (p4 ++ [22])
        rw [y2, List.append_assoc]
        unfold opsC
        rw [List.map_append]
        rfl) y3 (by rw [List.append_assoc]; exact R4) hB (by dsimp only; omega) g2
      show match mrB B orW 22 A dep j (s2.1, s2.2.1, s2.2.2 ++ [(22, 0, 0)]) with
        | .inr f => FLT M M' v f
        | .inl s2 => ∃ M2 pend c, (∀ x ∈ pend, x = (21 : Int32) ∨ x = 22) ∧ s2.2.2 = c ++ opsC pend ∧ wdS B (hdT s2.1) ≠ andW ∧ wdS B (hdT s2.1) ≠ orW ∧ FB fQ wQ M M2 ∧ RC B n M2 (s2.1, s2.2.1, c) (pend ++ P) ∧ BST d M2 M' v
      revert h9
      generalize mrB B orW 22 A dep j (s2.1, s2.2.1, s2.2.2 ++ [(22, 0, 0)]) = r
      intro h9
      cases r with
      | inr f => exact FLT.pre (((F1.trans F2).trans F3).trans F4) h9
      | inl s5 =>
        obtain ⟨M5, p5, c5, k1, k2, k3, k3b, k4, k5, k6⟩ := h9
        exact ⟨M5, p5, c5, k1, k2, k3, k3b, (((F1.trans F2).trans F3).trans F4).trans k4, k5, k6⟩
theorem mcon_ok {A : Nat → Sg → PR} {D : Nat → Prop} (hn2 : n ≤ 440) (hA : MAll B n D A) (gA : ∀ dep s s2, A dep s = .inl s2 → Gw s s2) : MCon B n D (conB B A) := by
  intro d dep s P M M' v hdD hdep hd11 hP hR h40 hE
  have h := hA d dep s P M M' v hdD hdep hd11 (hP.elim Or.inl (fun q => Or.inr (Or.inl q))) hR h40 hE
  unfold conB
  cases hr : A dep s with
  | inr f =>
    rw [hr] at h
    exact h
  | inl s2 =>
    rw [hr] at h
    obtain ⟨M4, p4, c4, y1, y2, y3, F4, R4, hB⟩ := h
    obtain ⟨g1, g2, _⟩ := gA _ _ _ hr
    have h9 := con_loop (d := d) hn2 hA gA hdD hdep hd11 hP 40 s2 M4 p4 c4 (fun x hx => Or.inl (y1 x hx)) y2 y3 R4 hB (by omega) g2
    show match mrB B orW 22 A dep 40 s2 with
      | .inr f => FLT M M' v f
      | .inl s2 => ∃ M2 pend c, (∀ x ∈ pend, x = (21 : Int32) ∨ x = 22) ∧ s2.2.2 = c ++ opsC pend ∧ wdS B (hdT s2.1) ≠ andW ∧ wdS B (hdT s2.1) ≠ orW ∧ FB fQ wQ M M2 ∧ RC B n M2 (s2.1, s2.2.1, c) (pend ++ P) ∧ BST d M2 M' v
    revert h9
    generalize mrB B orW 22 A dep 40 s2 = r
    intro h9
    cases r with
    | inr f => exact FLT.pre F4 h9
    | inl s5 =>
      obtain ⟨M5, p5, c5, k1, k2, k3, k3b, k4, k5, k6⟩ := h9
      exact ⟨M5, p5, c5, k1, k2, k3, k3b, F4.trans k4, k5, k6⟩
theorem mm_main (hn2 : n ≤ 440) : ∀ k : Nat, MCon B n (fun dep => 3 + 3 * (11 - dep) ≤ k) (prS B k).1 ∧ MAll B n (fun dep => 2 + 3 * (11 - dep) ≤ k) (prS B k).2.1 ∧ MOne B n (fun dep => 1 + 3 * (11 - dep) ≤ k) (prS B k).2.2 := by
  intro k
  induction k with
  | zero =>
    exact ⟨fun d dep s P M M' v h => absurd h (by omega), fun d dep s P M M' v h => absurd h (by omega), fun d dep s P M M' v h => absurd h (by omega)⟩
  | succ k ih =>
    refine ⟨?_, ?_, ?_⟩
    · have h := mcon_ok hn2 ih.2.1 (sp_bd k).2.1
      exact fun d dep s P M M' v hd => h d dep s P M M' v (by omega)
    · have h := mall_ok hn2 ih.2.2 (sp_bd k).2.2
      exact fun d dep s P M M' v hd => h d dep s P M M' v (by omega)
    · exact mone_ok (D := fun dep => 1 + 3 * (11 - dep) ≤ k + 1) (fun dep h1 h2 => ⟨by omega, by omega⟩) hn2 ih.1 ih.2.2 (sp_bd k).1 (sp_bd k).2.2
/-- the reference, ahead of a COND: whatever lies on the pile -/
def R0 (B : Nat → Int32) (n : Nat) (M : Mem) (s : Sg) : Prop := SQ M ∧ bR M = B ∧ (zI M 633 3).toInt = (n : Int) ∧ RTk B n M s.1 ∧ wfT s.1 ∧ gdT B s.1 ∧ (zI M 633 21).toInt = (s.2.1 : Int) ∧ SC M s.2.2 ∧ zI M 633 26 = 0
theorem RC.r0 {M : Mem} {s : Sg} {P : List Int32} (h : RC B n M s P) : R0 B n M s := ⟨h.1, h.2.1, h.2.2.1, h.2.2.2.1, h.2.2.2.2.1, h.2.2.2.2.2.1, h.2.2.2.2.2.2.1, h.2.2.2.2.2.2.2.1, h.2.2.2.2.2.2.2.2.2.2⟩
/-- the whole COND -/
theorem rcond_ok {e k : Nat} {M M' : Mem} {v : Option Value} {s : Sg} {c1 : Option Value} (hn2 : n ≤ 440) (hk : 33 ≤ k) (h : R0 B n M s) (h40 : s.2.1 ≤ 40) (H : Ev none e 179 0 [some (.ref 633), c1] [] M v M' 0 0) : match (prS B k).1 1 s with
  | .inr f => FLT M M' v f
  | .inl s2 => v = some (.int 1) ∧ FB fQ wQ M M' ∧ R0 B n M' s2 := by
  obtain ⟨a1, a2, a3, a4, a5, a6, a7, a8, a9⟩ := h
  have F1 : FB [(633, 20)] [] M (wF M 633 20 0) := FB.wF (by decide)
  have R1 : RC B n (wF M 633 20 0) s [] := ⟨a1.kf, (F1.bR (by decide)).trans a2, by rw [F1.fi (by decide)]; exact a3, a4.frm F1 (by decide) (by decide) (by decide) (by decide) (by decide), a5, a6, by rw [F1.fi (by decide)]; exact a7, a8.frm F1 (by decide) (by decide) (by decide) (by decide), by rw [fI_wF_eq a1.1 qa_633 qi_61_20]; rfl, trivial, by rw [F1.fi (by decide)]; exact a9⟩
  have F2 : FB fQ wQ M (wF M 633 20 0) := F1.more (by decide) (by decide)
  have H := ceq_0 a1 H
  obtain ⟨d, v1, M1, rfl, H1, H⟩ := ceq_5 R1.1 H
  have h := (mm_main hn2 k).1 d 1 s [] _ M' v (by omega) rfl (by omega) (Or.inl rfl) R1 h40 ⟨_, _, _, _, v1, M1, H1, H⟩
  cases hr : (prS B k).1 1 s with
  | inr f =>
    rw [hr] at h
    exact FLT.pre F2 h
  | inl s2 =>
    rw [hr] at h
    obtain ⟨M2, pend, c, p1, p2, p3, p4, F3, R2, ⟨c4, hB⟩⟩ := h
    have n23 : (23 : Int32) ∉ pend ++ [] := fun q => by
      rw [List.append_nil] at q
      rcases p1 _ q with q | q
      · exact absurd q (by decide)
      · exact absurd q (by decide)
    have go57 : Ev none (d + 1) 179 57 [some (.ref 633), c4] [] M2 v M' 0 0 := by
      rcases ceq_14 R2.1 hB with ⟨_, hB⟩ | ⟨_, e3, v4, M4, _, H4, hB⟩
      · exact hB
      · obtain ⟨ho, rfl⟩ := R2.isOpen H4
        rcases ho with ⟨_, q⟩ | ⟨rfl, _⟩
        · exact absurd q n23
        rcases ceq_27 R2.1 hB with ⟨_, hB⟩ | ⟨q, _⟩
        · exact hB
        · exact absurd rfl q
    have an0 : G_164 M2 6385252 = 0 := by
      rcases R2.2.2.2.1.word R2.2.2.2.2.2.1 (u := andW) (C := 6385252) (by decide) (by decide +kernel) with ⟨_, q⟩ | ⟨q, _⟩
      · exact absurd q p3
      · exact q
    have or0 : G_164 M2 28530 = 0 := by
      rcases R2.2.2.2.1.word R2.2.2.2.2.2.1 (u := orW) (C := 28530) (by decide) (by decide +kernel) with ⟨_, q⟩ | ⟨q, _⟩
      · exact absurd q p4
      · exact q
    rcases ceq_57 R2.1 go57 with ⟨_, _, e3, v4, M4, _, H4, hB⟩ | ⟨_, q, _⟩ | ⟨q, _⟩
    rotate_left
    · exact absurd or0 q
    · exact absurd an0 q
    obtain ⟨ho, rfl⟩ := R2.isOpen H4
    rcases ho with ⟨_, q⟩ | ⟨rfl, _⟩
    · exact absurd q n23
    rcases ceq_83 R2.1 hB with ⟨_, e4, v5, M5, _, H5, hB⟩ | ⟨q, _⟩
    rotate_left
    · exact absurd rfl q
    obtain ⟨rfl, F4, R4⟩ := RC.wdown _ _ _ R2 H5
    rw [show (s2.1, s2.2.1, c).2.2 = c from rfl, wdP_1 (Or.inl rfl) pend c p1, ← p2] at R4
    obtain ⟨h3, rfl⟩ := ceq_97 R4.1 hB
    exact ⟨h3, (F2.trans F3).trans F4, R4.r0⟩
end MAF
