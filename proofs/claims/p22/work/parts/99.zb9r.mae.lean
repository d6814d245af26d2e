/-! THE REFERENCE'S one, all of it -/
section MAE
variable {n : Nat} {B : Nat → Int32}
theorem ixP_mem {w : List Int32} : ∀ l : List (List Int32 × Int32), (ixP w l = -1) ∨ ∃ q ∈ l, w = q.1 ∧ ixP w l = q.2 := by
  intro l
  induction l with
  | nil => exact Or.inl rfl
  | cons q r ih =>
    obtain ⟨u, i⟩ := q
    show (if w = u then i else ixP w r) = -1 ∨ ∃ q ∈ (u, i) :: r, w = q.1 ∧ (if w = u then i else ixP w r) = q.2
    by_cases h : w = u
    · rw [if_pos h]
      exact Or.inr ⟨(u, i), List.mem_cons_self, h, rfl⟩
    · rw [if_neg h]
      rcases ih with h2 | ⟨q, h2, h3⟩
      · exact Or.inl h2
      · exact Or.inr ⟨q, List.mem_cons_of_mem _ h2, h3⟩
theorem ato_bd : ∀ q ∈ atoL, 0 ≤ q.2.toInt ∧ q.2.toInt ≤ 11 := by decide
theorem ato_not : ixP notW atoL = -1 := by decide +kernel
theorem ato_ne : ∀ q ∈ atoL, q.1 ≠ [] := by decide
theorem mone_ok {C O : Nat → Sg → PR} {D DC DO : Nat → Prop} (hD : ∀ dep, dep ≤ 10 → D dep → DC (dep + 1) ∧ DO (dep + 1)) (hn2 : n ≤ 440) (hC : MCon B n DC C) (hO : MOne B n DO O) (gC : ∀ dep s s2, C dep s = .inl s2 → Gw s s2) (gO : ∀ dep s s2, O dep s = .inl s2 → Gw s s2) : MOne B n D (oneB B C O) := by
  intro d dep s P M M' v hdD hdep hd11 hR h40 hE
  obtain ⟨c0, c1, c2, c3, v1, M1, H1, H⟩ := hE
  have z0 : (0 : Int32).toInt = 0 := rfl
  have o40 : (40 : Int32).toInt = 40 := rfl
  have h21 := hR.2.2.2.2.2.2.1
  have hT := hR.2.2.2.1
  have hg := hR.2.2.2.2.2.1
  have hx := one_ix (wdS B (hdT s.1))
  have hat := hT.atom hg
  have hones : (zI M 633 21 = 40) ↔ 40 ≤ s.2.1 := ⟨fun q => by rw [q] at h21; omega, fun q => Int32.toInt_inj.mp (by omega)⟩
  have hword := hT.word hg (u := notW) (C := 7237492) (by decide) (by decide +kernel)
  have h40s := hT.sign (c := 40) (by decide)
  have hab : G_173 M = -1 ∨ (0 ≤ (G_173 M).toInt ∧ (G_173 M).toInt ≤ 11 ∧ (hdT s.1).1 = 2) := by
    rw [hat]
    rcases ixP_mem (w := wdS B (hdT s.1)) atoL with q | ⟨q, q1, q2, q3⟩
    · exact Or.inl q
    · have := ato_bd q q1
      rw [q3]
      exact Or.inr ⟨this.1, this.2, wd_ne q2 (ato_ne q q1)⟩
  have hle : ∀ {x : Int32}, x = -1 ∨ 0 ≤ x.toInt → (0 ≤ x ↔ ¬ x = -1) := fun {x} q => by
    rw [Int32.le_iff_toInt_le]
    refine ⟨fun r e => by rw [e] at r; revert r; decide, fun r => ?_⟩
    rcases q with q | q
    · exact absurd q r
    · omega
  have hle2 := hle (x := G_173 M) (hab.elim Or.inl (fun q => Or.inr q.1))
  -- the spec's conditions
  have hneg : ixF (wdS B (hdT s.1)) oneW 0 < 0 ↔ (G_164 M 7237492 = 0 ∧ G_173 M = -1) := by
    rw [hx]
    rcases hword with ⟨q1, q2⟩ | ⟨q1, q2⟩
    · rw [if_pos q2, q1]
      exact ⟨fun q => absurd q (by decide), fun q => absurd q.1 (by decide)⟩
    · rw [if_neg q2, q1, ← hat]
      refine ⟨fun q => ⟨rfl, ?_⟩, fun q => by rw [q.2]; decide⟩
      rcases hab with h | ⟨h, _⟩
      · exact h
      · rw [Int32.lt_iff_toInt_lt] at q
        omega
  have h12 : ixF (wdS B (hdT s.1)) oneW 0 = 12 ↔ G_164 M 7237492 = 1 := by
    rw [hx]
    rcases hword with ⟨q1, q2⟩ | ⟨q1, q2⟩
    · rw [if_pos q2, q1]
      exact ⟨fun _ => rfl, fun _ => rfl⟩
    · rw [if_neg q2, q1, ← hat]
      refine ⟨fun q => ?_, fun q => absurd q (by decide)⟩
      rcases hab with h | ⟨_, h, _⟩
      · rw [q] at h; exact absurd h (by decide)
      · rw [q] at h; exact absurd h (by decide)
  have heq : G_164 M 7237492 ≠ 1 → ixF (wdS B (hdT s.1)) oneW 0 = G_173 M := fun q => by
    rw [hx]
    rcases hword with ⟨q1, q2⟩ | ⟨q1, q2⟩
    · exact absurd q1 q
    · rw [if_neg q2, hat]
  have hnt : (G_164 M 7237492 = 1 ∧ G_173 M = -1) ∨ (G_164 M 7237492 = 0 ∧ (G_173 M = -1 ∨ (0 ≤ (G_173 M).toInt ∧ (G_173 M).toInt ≤ 11))) := by
    rcases hword with ⟨q1, q2⟩ | ⟨q1, q2⟩
    · exact Or.inl ⟨q1, by rw [hat, q2]; exact ato_not⟩
    · exact Or.inr ⟨q1, hab.elim Or.inl (fun q => Or.inr ⟨q.1, q.2.1⟩)⟩
  unfold oneB
  -- a fault of kind 4
  have f4 : ∀ {e : Nat} {v3 : Option Value} {M3 : Mem} {r : PR}, ¬ (ixF (wdS B (hdT s.1)) oneW 0 < 0 ∧ (hdT s.1).1 ≠ 40) → (40 ≤ s.2.1 ∨ 10 < dep) → Ev none e 163 0 [some (.ref 633), some (.int 4)] [] M v3 M3 0 0 → Ev none d 180 59 [some (.ref 633), some (.int (G_164 M 7237492)), some (.int (G_173 M)), c3] (v3.toList ++ []) M3 v1 M1 0 0 → (match (if ixF (wdS B (hdT s.1)) oneW 0 < 0 ∧ (hdT s.1).1 ≠ 40 then (.inr (1, (hdT s.1).2.1) : PR) else if 40 ≤ s.2.1 ∨ 10 < dep then .inr (4, (hdT s.1).2.1) else r) with
  | .inr f => FLT M M' v f
  | .inl s2 => ∃ M2, FB fQ wQ M M2 ∧ RC B n M2 (s2.1, s2.2.1, (wdP 3 P s2.2.2).2) (wdP 3 P s2.2.2).1 ∧ BST d M2 M' v) := by
    intro e v3 M3 r k1 k2 H3 H2
    rw [if_neg k1, if_pos k2]
    exact bad_end hR H3 (fun y hy S => by subst hy; exact oe_59 S H2) H
  -- on, if there are not too many
  have on : ∀ {e : Nat} {v3 : Option Value} {M3 : Mem}, ¬ (ixF (wdS B (hdT s.1)) oneW 0 < 0 ∧ (hdT s.1).1 ≠ 40) → ¬ 40 ≤ s.2.1 → Ev none e 177 0 [some (.ref 633), none, none] [] M v3 M3 0 0 → Ev none d 180 49 [some (.ref 633), some (.int (G_164 M 7237492)), some (.int (G_173 M)), c3] (v3.toList ++ []) M3 v1 M1 0 0 → (match (if ixF (wdS B (hdT s.1)) oneW 0 < 0 ∧ (hdT s.1).1 ≠ 40 then (.inr (1, (hdT s.1).2.1) : PR) else if 40 ≤ s.2.1 ∨ 10 < dep then .inr (4, (hdT s.1).2.1) else if ixF (wdS B (hdT s.1)) oneW 0 < 0 then (match C (dep + 1) (s.1.tail, s.2.1 + 1, s.2.2) with
    | .inr f => .inr f
    | .inl s2 => if (hdT s2.1).1 ≠ 41 then .inr (1, (hdT s2.1).2.1) else .inl (s2.1.tail, s2.2.1, s2.2.2))
  else if ixF (wdS B (hdT s.1)) oneW 0 = 12 then (match O (dep + 1) (s.1.tail, s.2.1 + 1, s.2.2) with
    | .inr f => .inr f
    | .inl s2 => .inl (s2.1, s2.2.1, s2.2.2 ++ [(20, 0, 0)]))
  else if 8 ≤ ixF (wdS B (hdT s.1)) oneW 0 then cmpS (ixF (wdS B (hdT s.1)) oneW 0) (s.1.tail, s.2.1 + 1, s.2.2)
  else .inl (s.1.tail, s.2.1 + 1, s.2.2 ++ [(ixF (wdS B (hdT s.1)) oneW 0, 0, 0)])) with
  | .inr f => FLT M M' v f
  | .inl s2 => ∃ M2, FB fQ wQ M M2 ∧ RC B n M2 (s2.1, s2.2.1, (wdP 3 P s2.2.2).2) (wdP 3 P s2.2.2).1 ∧ BST d M2 M' v) := by
    intro e v3 M3 k1 k2 H3 H2
    obtain ⟨⟨y, hy, rfl⟩, rfl⟩ := hR.opn H3
    have o10 : (10 : Int32).toInt = 10 := rfl
    rcases oe_49 hR.1 H2 with ⟨q, e2, v4, M4, rfl, H4, H2⟩ | ⟨q, e2, v4, M4, rfl, H4, H2⟩
    · rw [if_neg k1, if_pos (Or.inr (by rw [q] at hy; omega))]
      exact bad_end hR H4 (fun y hy S => by subst hy; exact oe_59 S H2) H
    · have hd10 : dep ≤ 10 := by
        by_cases hq : dep ≤ 10
        · exact hq
        · exact absurd (Int32.toInt_inj.mp (by omega)) q
      rw [if_neg k1, if_neg (fun q => q.elim k2 (by omega))]
      obtain ⟨F1, R1⟩ := hR.ones (by omega)
      have hty : (hdT s.1).1 = 2 ∨ (hdT s.1).1 = 40 := by
        by_cases q4 : (hdT s.1).1 = 40
        · exact Or.inr q4
        · left
          rcases hword with ⟨_, q2⟩ | ⟨q1, q2⟩
          · exact wd_ne q2 (by decide)
          · rcases hab with h | ⟨_, _, h⟩
            · exact absurd ⟨hneg.mpr ⟨q1, h⟩, q4⟩ k1
            · exact h
      obtain ⟨rfl, F2, R2⟩ := R1.next hn2 (hty.elim (fun q => by rw [show (hdT (s.1, s.2.1 + 1, s.2.2).1).1 = 2 from q]; decide) (fun q => by rw [show (hdT (s.1, s.2.1 + 1, s.2.2).1).1 = 40 from q]; decide)) (hty.elim (fun q => by rw [show (hdT (s.1, s.2.1 + 1, s.2.2).1).1 = 2 from q]; decide) (fun q => by rw [show (hdT (s.1, s.2.1 + 1, s.2.2).1).1 = 40 from q]; decide)) H4
      have h := one_74 hn2 hC hO gC gO (hD dep hd10 hdD).1 (hD dep hd10 hdD).2 hdep hd10 R2 (by dsimp only; omega) hnt H2 H
      have he : (if ixF (wdS B (hdT s.1)) oneW 0 < 0 then (match C (dep + 1) (s.1.tail, s.2.1 + 1, s.2.2) with
    | .inr f => .inr f
    | .inl s2 => if (hdT s2.1).1 ≠ 41 then .inr (1, (hdT s2.1).2.1) else .inl (s2.1.tail, s2.2.1, s2.2.2))
  else if ixF (wdS B (hdT s.1)) oneW 0 = 12 then (match O (dep + 1) (s.1.tail, s.2.1 + 1, s.2.2) with
    | .inr f => .inr f
    | .inl s2 => .inl (s2.1, s2.2.1, s2.2.2 ++ [(20, 0, 0)]))
  else if 8 ≤ ixF (wdS B (hdT s.1)) oneW 0 then cmpS (ixF (wdS B (hdT s.1)) oneW 0) (s.1.tail, s.2.1 + 1, s.2.2)
  else .inl (s.1.tail, s.2.1 + 1, s.2.2 ++ [(ixF (wdS B (hdT s.1)) oneW 0, 0, 0)]) : PR) = (if G_164 M3 7237492 = 0 ∧ G_173 M3 = -1 then (match C (dep + 1) (s.1.tail, s.2.1 + 1, s.2.2) with
    | .inr f => .inr f
    | .inl s2 => if (hdT s2.1).1 ≠ 41 then .inr (1, (hdT s2.1).2.1) else .inl (s2.1.tail, s2.2.1, s2.2.2))
  else if G_164 M3 7237492 = 1 then (match O (dep + 1) (s.1.tail, s.2.1 + 1, s.2.2) with
    | .inr f => .inr f
    | .inl s2 => .inl (s2.1, s2.2.1, s2.2.2 ++ [(20, 0, 0)]))
  else if 8 ≤ G_173 M3 then cmpS (G_173 M3) (s.1.tail, s.2.1 + 1, s.2.2)
  else .inl (s.1.tail, s.2.1 + 1, s.2.2 ++ [(G_173 M3, 0, 0)])) := by
        by_cases q1 : ixF (wdS B (hdT s.1)) oneW 0 < 0
        · rw [if_pos q1, if_pos (hneg.mp q1)]
        · rw [if_neg q1, if_neg (fun x => q1 (hneg.mpr x))]
          by_cases q2 : ixF (wdS B (hdT s.1)) oneW 0 = 12
          · rw [if_pos q2, if_pos (h12.mp q2)]
          · have q3 : G_164 M3 7237492 ≠ 1 := fun x => q2 (h12.mpr x)
            rw [if_neg q2, if_neg q3, heq q3]
      rw [he]
      revert h
      generalize (if G_164 M3 7237492 = 0 ∧ G_173 M3 = -1 then (match C (dep + 1) (s.1.tail, s.2.1 + 1, s.2.2) with
    | .inr f => .inr f
    | .inl s2 => if (hdT s2.1).1 ≠ 41 then .inr (1, (hdT s2.1).2.1) else .inl (s2.1.tail, s2.2.1, s2.2.2))
  else if G_164 M3 7237492 = 1 then (match O (dep + 1) (s.1.tail, s.2.1 + 1, s.2.2) with
    | .inr f => .inr f
    | .inl s2 => .inl (s2.1, s2.2.1, s2.2.2 ++ [(20, 0, 0)]))
  else if 8 ≤ G_173 M3 then cmpS (G_173 M3) (s.1.tail, s.2.1 + 1, s.2.2)
  else .inl (s.1.tail, s.2.1 + 1, s.2.2 ++ [(G_173 M3, 0, 0)]) : PR) = r
      intro h
      cases r with
      | inr f => exact FLT.pre (F1.trans F2) h
      | inl s2 =>
        obtain ⟨M4, F3, R3, hB⟩ := h
        exact ⟨M4, (F1.trans F2).trans F3, R3, hB⟩
  have ok : G_164 M 7237492 = 0 → ¬ 0 ≤ G_173 M → (hdT s.1).1 = 40 → ¬ (ixF (wdS B (hdT s.1)) oneW 0 < 0 ∧ (hdT s.1).1 ≠ 40) := fun _ _ q x => x.2 q
  have ok2 : 0 ≤ G_173 M → ¬ (ixF (wdS B (hdT s.1)) oneW 0 < 0 ∧ (hdT s.1).1 ≠ 40) := fun q x => (hle2.mp q) (hneg.mp x.1).2
  have ok3 : ¬ G_164 M 7237492 = 0 → ¬ (ixF (wdS B (hdT s.1)) oneW 0 < 0 ∧ (hdT s.1).1 ≠ 40) := fun q x => q (hneg.mp x.1).1
  have s40 : ¬ G_165 M 40 = 0 → (hdT s.1).1 = 40 := fun q => h40s.elim (fun x => x.2.1) (fun x => absurd x.1 q)
  rcases oe_0 hR.1 H1 with ⟨g1, g2, g3, e1, v3, M3, rfl, H3, H2⟩ | ⟨g1, g2, g3, e1, v3, M3, rfl, H3, H2⟩ | ⟨g1, g2, g3, e1, v3, M3, rfl, H3, H2⟩ | ⟨g1, g2, g3, g4, e1, v3, M3, rfl, H3, H2⟩ | ⟨g1, g2, g3, g4, e1, v3, M3, rfl, H3, H2⟩ | ⟨g1, g3, e1, v3, M3, rfl, H3, H2⟩ | ⟨g1, g3, e1, v3, M3, rfl, H3, H2⟩
  · exact f4 (ok2 g2) (Or.inl (hones.mp g3)) H3 H2
  · exact on (ok2 g2) (fun q => g3 (hones.mpr q)) H3 H2
  · have q4 : (hdT s.1).1 ≠ 40 := by
      rcases h40s with ⟨q, _⟩ | ⟨_, q⟩
      · rw [q] at g3; exact absurd g3 (by decide)
      · exact q
    have qa : G_173 M = -1 := by
      rcases hab with q | ⟨q, _⟩
      · exact q
      · exact absurd (by rw [Int32.le_iff_toInt_le]; exact q) g2
    rw [if_pos ⟨hneg.mpr ⟨g1, qa⟩, q4⟩]
    exact bad_end hR H3 (fun y hy S => by subst hy; exact oe_35 S H2) H
  · exact f4 (ok g1 g2 (s40 g3)) (Or.inl (hones.mp g4)) H3 H2
  · exact on (ok g1 g2 (s40 g3)) (fun q => g4 (hones.mpr q)) H3 H2
  · exact f4 (ok3 g1) (Or.inl (hones.mp g3)) H3 H2
  · exact on (ok3 g1) (fun q => g3 (hones.mpr q)) H3 H2
end MAE
