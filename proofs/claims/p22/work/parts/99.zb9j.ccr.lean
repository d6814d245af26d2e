/-! THE CLASS'S cond, all, one: loops and all -/
/-- how an ONE, ALL or COND grows -/
def Gw (s s2 : Sg) : Prop := s.2.1 < s2.2.1 ∧ s2.2.1 ≤ 40 ∧ s2.2.2.length + 1 + 2 * s.2.1 ≤ s.2.2.length + 2 * s2.2.1
section CCR
variable {n t : Nat} {B : Nat → Int32}
theorem mr_bd {w : List Int32} {c : Int32} {O : Nat → Sg → PR} {dep : Nat} (hG : ∀ s s2, O dep s = .inl s2 → Gw s s2) : ∀ (j : Nat) (s s2 : Sg), s.2.1 ≤ 40 → mrB B w c O dep j s = .inl s2 → s.2.1 ≤ s2.2.1 ∧ s2.2.1 ≤ 40 ∧ s2.2.2.length + 2 * s.2.1 ≤ s.2.2.length + 2 * s2.2.1 := by
  intro j
  induction j with
  | zero =>
    intro s s2 h0 h
    cases h
    exact ⟨Nat.le_refl _, h0, Nat.le_refl _⟩
  | succ j ih =>
    intro s s2 h0 h
    unfold mrB at h
    by_cases hw : wdS B (hdT s.1) = w
    · rw [if_pos hw] at h
      cases hr : O dep (s.1.tail, s.2.1, s.2.2) with
      | inr f => rw [hr] at h; cases h
      | inl s3 =>
        rw [hr] at h
        obtain ⟨g1, g2, g3⟩ := hG _ _ hr
        have h : mrB B w c O dep j (s3.1, s3.2.1, s3.2.2 ++ [(c, 0, 0)]) = .inl s2 := h
        obtain ⟨k1, k2, k3⟩ := ih _ _ (by dsimp only; omega) h
        dsimp only at g1 g3 k1 k3
        rw [List.length_append] at k3
        have k3 : s2.2.2.length + 2 * s3.2.1 ≤ s3.2.2.length + 1 + 2 * s2.2.1 := k3
        exact ⟨by omega, k2, by omega⟩
    · rw [if_neg hw] at h
      cases h
      exact ⟨Nat.le_refl _, h0, Nat.le_refl _⟩
theorem one_bd {C O : Nat → Sg → PR} (hC : ∀ dep s s2, C dep s = .inl s2 → Gw s s2) (hO : ∀ dep s s2, O dep s = .inl s2 → Gw s s2) (dep : Nat) (s s2 : Sg) (h : oneB B C O dep s = .inl s2) : Gw s s2 := by
  unfold oneB at h
  split at h
  · cases h
  · split at h
    · cases h
    · rename_i h40
      have h40 : s.2.1 < 40 := by
        by_cases q : s.2.1 < 40
        · exact q
        · exact absurd (Or.inl (by omega)) h40
      split at h
      · split at h
        · cases h
        · rename_i s3 hr
          split at h
          · cases h
          · cases h
            obtain ⟨g1, g2, g3⟩ := hC _ _ _ hr
            dsimp only at g1 g3
            exact ⟨by dsimp only; omega, g2, by dsimp only; omega⟩
      · split at h
        · split at h
          · cases h
          · rename_i s3 hr
            cases h
            obtain ⟨g1, g2, g3⟩ := hO _ _ _ hr
            dsimp only at g1 g3
            refine ⟨by dsimp only; omega, g2, ?_⟩
            dsimp only
            rw [List.length_append]
            show s3.2.2.length + 1 + 1 + 2 * s.2.1 ≤ _
            omega
        · split at h
          · unfold cmpS at h
            split at h
            · cases h
            · split at h
              · cases h
              · cases h
                refine ⟨by dsimp only; omega, by dsimp only; omega, ?_⟩
                dsimp only
                rw [List.length_append]
                show s.2.2.length + 1 + 1 + 2 * s.2.1 ≤ _
                omega
          · cases h
            refine ⟨by dsimp only; omega, by dsimp only; omega, ?_⟩
            dsimp only
            rw [List.length_append]
            show s.2.2.length + 1 + 1 + 2 * s.2.1 ≤ _
            omega
theorem sq_bd {w : List Int32} {c : Int32} {O : Nat → Sg → PR} {dep : Nat} {s s2 : Sg} (hG : ∀ s s2, O dep s = .inl s2 → Gw s s2) (h : (match O dep s with | .inr f => (.inr f : PR) | .inl s3 => mrB B w c O dep 40 s3) = .inl s2) : Gw s s2 := by
  cases hr : O dep s with
  | inr f => rw [hr] at h; cases h
  | inl s3 =>
    rw [hr] at h
    have h : mrB B w c O dep 40 s3 = .inl s2 := h
    obtain ⟨g1, g2, g3⟩ := hG _ _ hr
    obtain ⟨k1, k2, k3⟩ := mr_bd hG 40 _ _ g2 h
    exact ⟨by omega, k2, by omega⟩
theorem sp_bd : ∀ d : Nat, (∀ dep s s2, (prS B d).1 dep s = .inl s2 → Gw s s2) ∧ (∀ dep s s2, (prS B d).2.1 dep s = .inl s2 → Gw s s2) ∧ (∀ dep s s2, (prS B d).2.2 dep s = .inl s2 → Gw s s2) := by
  intro d
  induction d with
  | zero => exact ⟨fun dep s s2 h => (by cases h), fun dep s s2 h => (by cases h), fun dep s s2 h => (by cases h)⟩
  | succ d ih =>
    exact ⟨fun dep s s2 h => sq_bd (ih.2.1 dep) h, fun dep s s2 h => sq_bd (ih.2.2 dep) h, fun dep s s2 h => one_bd ih.1 ih.2.2 dep s s2 h⟩
/-- further ALLS or ONES of the class -/
theorem al_loop {e : Nat} {O : Nat → Sg → PR} {dep : Nat} {dz : Int32} (ht : gNth sT t = some 28) (hn2 : n ≤ 440) (hO : ∀ (s : Sg) (M M' : Mem) (v : Option Value), CSt B n t M s → Ev none e 38 0 [some (.ref 3), some (.int dz), none, none] [] M v M' 0 0 → FA (fP t) (wP t) M M' ∧ RSt B n t M' v (O dep s)) (hG : ∀ s s2, O dep s = .inl s2 → Gw s s2) : ∀ (j : Nat) (nn : Int32) (s : Sg) (M M' : Mem) (v : Option Value), j ≤ 40 → nn.toInt + (j : Int) = 40 → CSt B n t M s → Ev none (e + 1) 37 12 [some (.ref 3), some (.int dz), some (.int nn)] [] M v M' 0 0 → FA (fP t) (wP t) M M' ∧ RSt B n t M' v (mrB B andW 21 O dep j s) := by
  intro j
  induction j with
  | zero =>
    intro nn s M M' v hj hnn hC H
    have o40 : (40 : Int32).toInt = 40 := rfl
    rcases al_12 hC.1 H with ⟨h1, h2, rfl⟩ | ⟨h1, _⟩
    · exact ⟨FA.refl _, h2, hC⟩
    · exact absurd (Int32.le_iff_toInt_le.mpr (by omega)) h1
  | succ j ih =>
    intro nn s M M' v hj hnn hC H
    have o40 : (40 : Int32).toInt = 40 := rfl
    have n1 : (nn + 1).toInt = nn.toInt + 1 := i32_p1 (by omega)
    rcases al_12 hC.1 H with ⟨h1, _⟩ | ⟨h1, e1, v1, M1, he, H1, H⟩
    · rw [Int32.le_iff_toInt_le] at h1
      omega
    obtain ⟨rfl, rfl⟩ := amq_all (ws := [andW]) hC.1 hn2 hC.2.2.1 rfl (by decide) (List.cons_ne_nil _ _) (by decide) (by decide) H1
    rw [hC.wd] at H
    have hx : ixF (wdS B (hdT s.1)) [andW] 0 = if wdS B (hdT s.1) = andW then 0 else -1 := rfl
    unfold mrB
    by_cases hw : wdS B (hdT s.1) = andW
    rotate_left
    · rw [hx, if_neg hw] at H
      rw [if_neg hw]
      rcases al_24 hC.1 H with ⟨h2, _⟩ | ⟨_, h2, rfl⟩
      · exact absurd h2 (by decide)
      · exact ⟨FA.refl _, h2, hC⟩
    · rw [hx, if_pos hw] at H
      rw [if_pos hw]
      have h2 := wd_ne hw (by decide)
      rcases al_24 hC.1 H with ⟨_, e2, v2, M2, he, H2, H⟩ | ⟨h3, _⟩
      rotate_left
      · exact absurd rfl h3
      obtain ⟨rfl, F1, C1⟩ := hC.go ht (by rw [h2]; decide) (by rw [h2]; decide) H2
      obtain ⟨e3, v3, M3, he, H3, H⟩ := al_31 C1.1 H
      cases he
      obtain ⟨F2, R2⟩ := hO _ _ _ _ C1 H3
      cases hr : O dep (s.1.tail, s.2.1, s.2.2) with
      | inr f =>
        rw [hr] at R2
        obtain ⟨rfl, S2, r1, r2⟩ := RS_err R2
        rcases al_36 S2 H with ⟨_, h3, rfl⟩ | ⟨h3, _⟩
        · exact ⟨F1.tr F2, h3, S2, r1, r2⟩
        · exact absurd rfl h3
      | inl s2 =>
        rw [hr] at R2
        obtain ⟨rfl, C2⟩ := RS_ok R2
        obtain ⟨g1, g2, g3⟩ := hG _ _ hr
        have g8 := hC.2.2.2.2.2.2.2.1
        rcases al_36 C2.1 H with ⟨h3, _⟩ | ⟨_, e4, v4, M4, he, H4, H⟩
        · exact absurd h3 (by decide)
        obtain ⟨rfl, F3, C3⟩ := C2.emit ht (c := (21, 0, 0)) (by dsimp only at g3; omega) (by decide) H4
        have H := al_49 C3.1 H
        obtain ⟨F4, R4⟩ := ih (nn + 1) _ _ _ _ (by omega) (by omega) C3 H
        exact ⟨((F1.tr F2).tr F3).tr F4, R4⟩
/-- further ALLS or ONES of the class -/
theorem coq_loop {e : Nat} {O : Nat → Sg → PR} {dep : Nat} {dz : Int32} (ht : gNth sT t = some 28) (hn2 : n ≤ 440) (hO : ∀ (s : Sg) (M M' : Mem) (v : Option Value), CSt B n t M s → Ev none e 37 0 [some (.ref 3), some (.int dz), none] [] M v M' 0 0 → FA (fP t) (wP t) M M' ∧ RSt B n t M' v (O dep s)) (hG : ∀ s s2, O dep s = .inl s2 → Gw s s2) : ∀ (j : Nat) (nn : Int32) (s : Sg) (M M' : Mem) (v : Option Value), j ≤ 40 → nn.toInt + (j : Int) = 40 → CSt B n t M s → Ev none (e + 1) 36 12 [some (.ref 3), some (.int dz), some (.int nn)] [] M v M' 0 0 → FA (fP t) (wP t) M M' ∧ RSt B n t M' v (mrB B orW 22 O dep j s) := by
  intro j
  induction j with
  | zero =>
    intro nn s M M' v hj hnn hC H
    have o40 : (40 : Int32).toInt = 40 := rfl
    rcases coq_12 hC.1 H with ⟨h1, h2, rfl⟩ | ⟨h1, _⟩
    · exact ⟨FA.refl _, h2, hC⟩
    · exact absurd (Int32.le_iff_toInt_le.mpr (by omega)) h1
  | succ j ih =>
    intro nn s M M' v hj hnn hC H
    have o40 : (40 : Int32).toInt = 40 := rfl
    have n1 : (nn + 1).toInt = nn.toInt + 1 := i32_p1 (by omega)
    rcases coq_12 hC.1 H with ⟨h1, _⟩ | ⟨h1, e1, v1, M1, he, H1, H⟩
    · rw [Int32.le_iff_toInt_le] at h1
      omega
    obtain ⟨rfl, rfl⟩ := amq_all (ws := [orW]) hC.1 hn2 hC.2.2.1 rfl (by decide) (List.cons_ne_nil _ _) (by decide) (by decide) H1
    rw [hC.wd] at H
    have hx : ixF (wdS B (hdT s.1)) [orW] 0 = if wdS B (hdT s.1) = orW then 0 else -1 := rfl
    unfold mrB
    by_cases hw : wdS B (hdT s.1) = orW
    rotate_left
    · rw [hx, if_neg hw] at H
      rw [if_neg hw]
      rcases coq_24 hC.1 H with ⟨h2, _⟩ | ⟨_, h2, rfl⟩
      · exact absurd h2 (by decide)
      · exact ⟨FA.refl _, h2, hC⟩
    · rw [hx, if_pos hw] at H
      rw [if_pos hw]
      have h2 := wd_ne hw (by decide)
      rcases coq_24 hC.1 H with ⟨_, e2, v2, M2, he, H2, H⟩ | ⟨h3, _⟩
      rotate_left
      · exact absurd rfl h3
      obtain ⟨rfl, F1, C1⟩ := hC.go ht (by rw [h2]; decide) (by rw [h2]; decide) H2
      obtain ⟨e3, v3, M3, he, H3, H⟩ := coq_31 C1.1 H
      cases he
      obtain ⟨F2, R2⟩ := hO _ _ _ _ C1 H3
      cases hr : O dep (s.1.tail, s.2.1, s.2.2) with
      | inr f =>
        rw [hr] at R2
        obtain ⟨rfl, S2, r1, r2⟩ := RS_err R2
        rcases coq_36 S2 H with ⟨_, h3, rfl⟩ | ⟨h3, _⟩
        · exact ⟨F1.tr F2, h3, S2, r1, r2⟩
        · exact absurd rfl h3
      | inl s2 =>
        rw [hr] at R2
        obtain ⟨rfl, C2⟩ := RS_ok R2
        obtain ⟨g1, g2, g3⟩ := hG _ _ hr
        have g8 := hC.2.2.2.2.2.2.2.1
        rcases coq_36 C2.1 H with ⟨h3, _⟩ | ⟨_, e4, v4, M4, he, H4, H⟩
        · exact absurd h3 (by decide)
        obtain ⟨rfl, F3, C3⟩ := C2.emit ht (c := (22, 0, 0)) (by dsimp only at g3; omega) (by decide) H4
        have H := coq_49 C3.1 H
        obtain ⟨F4, R4⟩ := ih (nn + 1) _ _ _ _ (by omega) (by omega) C3 H
        exact ⟨((F1.tr F2).tr F3).tr F4, R4⟩
end CCR
