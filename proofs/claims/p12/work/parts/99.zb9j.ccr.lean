/-! THE CLASS'S cond, all, one: loops and all -/
/-- how an ONE, ALL or COND grows -/
def Gw (s s2 : Sg) : Prop := s.2.1 < s2.2.1 ∧ s2.2.1 ≤ 40 ∧ s2.2.2.length + 1 + 2 * s.2.1 ≤ s.2.2.length + 2 * s2.2.1
section CCR
variable {n t : Nat} {B : Nat → Int32}
theorem mr_bd {w : List Int32} {c : Int32} {O : Nat → Sg → PR} {dep : Nat} (hG : ∀ s s2, O dep s = .inl s2 → Gw s s2) : ∀ (j : Nat) (s s2 : Sg), s.2.1 ≤ 40 → mrB B w c O dep j s = .inl s2 → s.2.1 ≤ s2.2.1 ∧ s2.2.1 ≤ 40 ∧ s2.2.2.length + 2 * s.2.1 ≤ s.2.2.length + 2 * s2.2.1 := by
  intro j
  induction j with
  | zero =>
    intro s s2 h0 h
    cases h
    exact ⟨Nat.le_refl _, h0, Nat.le_refl _⟩
  | succ j ih =>
    intro s s2 h0 h
    unfold mrB at h
    by_cases hw : wdS B (hdT s.1) = w
    · rw [if_pos hw] at h
      cases hr : O dep (s.1.tail, s.2.1, s.2.2) with
      | inr f => rw [hr] at h; cases h
      | inl s3 =>
        rw [hr] at h
        obtain ⟨g1, g2, g3⟩ := hG _ _ hr
        have h : mrB B w c O dep j (s3.1, s3.2.1, s3.2.2 ++ [(c, 0, 0)]) = .inl s2 := h
        obtain ⟨k1, k2, k3⟩ := ih _ _ (by dsimp only; omega) h
        dsimp only at g1 g3 k1 k3
        rw [List.length_append] at k3
        have k3 : s2.2.2.length + 2 * s3.2.1 ≤ s3.2.2.length + 1 + 2 * s2.2.1 := k3
        exact ⟨by omega, k2, by omega⟩
    · rw [if_neg hw] at h
      cases h
      exact ⟨Nat.le_refl _, h0, Nat.le_refl _⟩
theorem one_bd {C O : Nat → Sg → PR} (hC : ∀ dep s s2, C dep s = .inl s2 → Gw s s2) (hO : ∀ dep s s2, O dep s = .inl s2 → Gw s s2) (dep : Nat) (s s2 : Sg) (h : oneB B C O dep s = .inl s2) : Gw s s2 := by
  unfold oneB at h
  split at h
  · cases h
  · split at h
    · cases h
    · rename_i h40
      have h40 : s.2.1 < 40 := by
        by_cases q : s.2.1 < 40
        · exact q
        · exact absurd (Or.inl (by omega)) h40
      split at h
      · split at h
        · cases h
        · rename_i s3 hr
          split at h
          · cases h
          · cases h
            obtain ⟨g1, g2, g3⟩ := hC _ _ _ hr
            dsimp only at g1 g3
            exact ⟨by dsimp only; omega, g2, by dsimp only; omega⟩
      · split at h
        · split at h
          · cases h
          · rename_i s3 hr
            cases h
            obtain ⟨g1, g2, g3⟩ := hO _ _ _ hr
            dsimp only at g1 g3
            refine ⟨by dsimp only; omega, g2, ?_⟩
            dsimp only
            rw [List.length_append]
            show s3.2.2.length + 1 + 1 + 2 * s.2.1 ≤ _
            omega
        · split at h
          · unfold cmpS at h
            split at h
            · cases h
            · split at h
              · cases h
              · cases h
                refine ⟨by dsimp only; omega, by dsimp only; omega, ?_⟩
                dsimp only
                rw [List.length_append]
                show s.2.2.length + 1 + 1 + 2 * s.2.1 ≤ _
                omega
          · cases h
            refine ⟨by dsimp only; omega, by dsimp only; omega, ?_⟩
            dsimp only
            rw [List.length_append]
            show s.2.2.length + 1 + 1 + 2 * s.2.1 ≤ _
            omega
theorem sq_bd {w : List Int32} {c : Int32} {O : Nat → Sg → PR} {dep : Nat} {s s2 : Sg} (hG : ∀ s s2, O dep s = .inl s2 → Gw s s2) (h : (match O dep s with | .inr f => (.inr f : PR) | .inl s3 => mrB B w c O dep 40 s3) = .inl s2) : Gw s s2 := by
  cases hr : O dep s with
  | inr f => rw [hr] at h; cases h
  | inl s3 =>
    rw [hr] at h
    have h : mrB B w c O dep 40 s3 = .inl s2 := h
    obtain ⟨g1, g2, g3⟩ := hG _ _ hr
    obtain ⟨k1, k2, k3⟩ := mr_bd hG 40 _ _ g2 h
    exact ⟨by omega, k2, by omega⟩
theorem sp_bd : ∀ d : Nat, (∀ dep s s2, (prS B d).1 dep s = .inl s2 → Gw s s2) ∧ (∀ dep s s2, (prS B d).2.1 dep s = .inl s2 → Gw s s2) ∧ (∀ dep s s2, (prS B d).2.2 dep s = .inl s2 → Gw s s2) := by
  intro d
  induction d with
  | zero => exact ⟨fun dep s s2 h => (by cases h), fun dep s s2 h => (by cases h), fun dep s s2 h => (by cases h)⟩
  | succ d ih =>
    exact ⟨fun dep s s2 h => sq_bd (ih.2.1 dep) h, fun dep s s2 h => sq_bd (ih.2.2 dep) h, fun dep s s2 h => one_bd ih.1 ih.2.2 dep s s2 h⟩
/-- further ALLS or ONES of the class -/
theorem al_loop {e : Nat} {O : Nat → Sg → PR} {dep : Nat} {dz : Int32} (ht : gNth sT t = some 28) (hn2 : n ≤ 440) (hO : ∀ (s : Sg) (M M' : Mem) (v : Option Value), CSt B n t M s → Ev none e 38 0 [some (.ref 3), some (.int dz), none, none] [] M v M' 0 0 → FA (fP t) (wP t) M M' ∧ RSt B n t M' v (O dep s)) (hG : ∀ s s2, O dep s = .inl s2 → Gw s s2) : ∀ (j : Nat) (nn : Int32) (s : Sg) (M M' : Mem) (v : Option Value), j ≤ 40 → nn.toInt + (j : Int) = 40 → CSt B n t M s → Ev none (e + 1) 37 12 [some (.ref 3), some (.int dz), some (.int nn)] [] M v M' 0 0 → FA (fP t) (wP t) M M' ∧ RSt B n t M' v (mrB B andW 21 O dep j s) := by
  intro j
  induction j with
  | zero =>
    intro nn s M M' v hj hnn hC H
    have o40 : (40 : Int32).toInt = 40 := rfl
    rcases al_12 hC.1 H with ⟨h1, h2, rfl⟩ | ⟨h1, _⟩
    · exact ⟨FA.refl _, h2, hC⟩
    · exact absurd (Int32.le_iff_toInt_le.mpr (by omega)) h1
  | succ j ih =>
    intro nn s M M' v hj hnn hC H
    have o40 : (40 : Int32).toInt = 40 := rfl
    have n1 : (nn + 1).toInt = nn.toInt + 1 := i32_p1 (by omega)
    rcases al_12 hC.1 H with ⟨h1, _⟩ | ⟨h1, e1, v1, M1, he, H1, H⟩
    · rw [Int32.le_iff_toInt_le] at h1
      omega
    obtain ⟨rfl, rfl⟩ := amq_all (ws := [andW]) hC.1 hn2 hC.2.2.1 rfl (by decide) (List.cons_ne_nil _ _) (by decide) (by decide) H1
    rw [hC.wd] at H
    have hx : ixF (wdS B (hdT s.1)) [andW] 0 = if wdS B (hdT s.1) = andW then 0 else -1 := rfl
    unfold mrB
    by_cases hw : wdS B (hdT s.1) = andW
    rotate_left
    · rw [hx, if_neg hw] at H
      rw [if_neg hw]
      rcases al_24 hC.1 H with ⟨h2, _⟩ | ⟨_, h2, rfl⟩
      · exact absurd h2 (by decide)
      · exact ⟨FA.refl _, h2, hC⟩
    · rw [hx, if_pos hw] at H
      rw [if_pos hw]
      have h2 := wd_ne hw (by decide)
      rcases al_24 hC.1 H with ⟨_, e2, v2, M2, he, H2, H⟩ | ⟨h3, _⟩
      rotate_left
      · exact absurd rfl h3
      obtain ⟨rfl, F1, C1⟩ := hC.go ht (by rw [h2]; decide) (by rw [h2]; decide) H2
      obtain ⟨e3, v3, M3, he, H3, H⟩ := al_31 C1.1 H
      cases he
      obtain ⟨F2, R2⟩ := hO _ _ _ _ C1 H3
      cases hr : O dep (s.1.tail, s.2.1, s.2.2) with
      | inr f =>
        rw [hr] at R2
        obtain ⟨rfl, S2, r1, r2⟩ := RS_err R2
        rcases al_36 S2 H with ⟨_, h3, rfl⟩ | ⟨h3, _⟩
        · exact ⟨F1.tr F2, h3, S2, r1, r2⟩
        · exact absurd rfl h3
      | inl s2 =>
        rw [hr] at R2
        obtain ⟨rfl, C2⟩ := RS_ok R2
        obtain ⟨g1, g2, g3⟩ := hG _ _ hr
        have g8 := hC.2.2.2.2.2.2.2.1
        rcases al_36 C2.1 H with ⟨h3, _⟩ | ⟨_, e4, v4, M4, he, H4, H⟩
        · exact absurd h3 (by decide)
        obtain ⟨rfl, F3, C3⟩ := C2.emit ht (c := (21, 0, 0)) (by dsimp only at g3; omega) (by decide) H4
        have H := al_49 C3.1 H
        obtain ⟨F4, R4⟩ := ih (nn + 1) _ _ _ _ (by omega) (by omega) C3 H
        exact ⟨((F1.tr F2).tr F3).tr F4, R4⟩
/-- further ALLS or ONES of the class -/
theorem coq_loop {e : Nat} {O : Nat → Sg → PR} {dep : Nat} {dz : Int32} (ht : gNth sT t = some 28) (hn2 : n ≤ 440) (hO : ∀ (s : Sg) (M M' : Mem) (v : Option Value), CSt B n t M s → Ev none e 37 0 [some (.ref 3), some (.int dz), none] [] M v M' 0 0 → FA (fP t) (wP t) M M' ∧ RSt B n t M' v (O dep s)) (hG : ∀ s s2, O dep s = .inl s2 → Gw s s2) : ∀ (j : Nat) (nn : Int32) (s : Sg) (M M' : Mem) (v : Option Value), j ≤ 40 → nn.toInt + (j : Int) = 40 → CSt B n t M s → Ev none (e + 1) 36 12 [some (.ref 3), some (.int dz), some (.int nn)] [] M v M' 0 0 → FA (fP t) (wP t) M M' ∧ RSt B n t M' v (mrB B orW 22 O dep j s) := by
  intro j
  induction j with
  | zero =>
    intro nn s M M' v hj hnn hC H
    have o40 : (40 : Int32).toInt = 40 := rfl
    rcases coq_12 hC.1 H with ⟨h1, h2, rfl⟩ | ⟨h1, _⟩
    · exact ⟨FA.refl _, h2, hC⟩
    · exact absurd (Int32.le_iff_toInt_le.mpr (by omega)) h1
  | succ j ih =>
    intro nn s M M' v hj hnn hC H
    have o40 : (40 : Int32).toInt = 40 := rfl
    have n1 : (nn + 1).toInt = nn.toInt + 1 := i32_p1 (by omega)
    rcases coq_12 hC.1 H with ⟨h1, _⟩ | ⟨h1, e1, v1, M1, he, H1, H⟩
    · rw [Int32.le_iff_toInt_le] at h1
      omega
    obtain ⟨rfl, rfl⟩ := amq_all (ws := [orW]) hC.1 hn2 hC.2.2.1 rfl (by decide) (List.cons_ne_nil _ _) (by decide) (by decide) H1
    rw [hC.wd] at H
    have hx : ixF (wdS B (hdT s.1)) [orW] 0 = if wdS B (hdT s.1) = orW then 0 else -1 := rfl
    unfold mrB
    by_cases hw : wdS B (hdT s.1) = orW
    rotate_left
    · rw [hx, if_neg hw] at H
      rw [if_neg hw]
      rcases coq_24 hC.1 H with ⟨h2, _⟩ | ⟨_, h2, rfl⟩
      · exact absurd h2 (by decide)
      · exact ⟨FA.refl _, h2, hC⟩
    · rw [hx, if_pos hw] at H
      rw [if_pos hw]
      have h2 := wd_ne hw (by decide)
      rcases coq_24 hC.1 H with ⟨_, e2, v2, M2, he, H2, H⟩ | ⟨h3, _⟩
      rotate_left
      · exact absurd rfl h3
      obtain ⟨rfl, F1, C1⟩ := hC.go ht (by rw [h2]; decide) (by rw [h2]; decide) H2
      obtain ⟨e3, v3, M3, he, H3, H⟩ := coq_31 C1.1 H
      cases he
      obtain ⟨F2, R2⟩ := hO _ _ _ _ C1 H3
      cases hr : O dep (s.1.tail, s.2.1, s.2.2) with
      | inr f =>
        rw [hr] at R2
        obtain ⟨rfl, S2, r1, r2⟩ := RS_err R2
        rcases coq_36 S2 H with ⟨_, h3, rfl⟩ | ⟨h3, _⟩
        · exact ⟨F1.tr F2, h3, S2, r1, r2⟩
        · exact absurd rfl h3
      | inl s2 =>
        rw [hr] at R2
        obtain ⟨rfl, C2⟩ := RS_ok R2
        obtain ⟨g1, g2, g3⟩ := hG _ _ hr
        have g8 := hC.2.2.2.2.2.2.2.1
        rcases coq_36 C2.1 H with ⟨h3, _⟩ | ⟨_, e4, v4, M4, he, H4, H⟩
        · exact absurd h3 (by decide)
        obtain ⟨rfl, F3, C3⟩ := C2.emit ht (c := (22, 0, 0)) (by dsimp only at g3; omega) (by decide) H4
        have H := coq_49 C3.1 H
        obtain ⟨F4, R4⟩ := ih (nn + 1) _ _ _ _ (by omega) (by omega) C3 H
        exact ⟨((F1.tr F2).tr F3).tr F4, R4⟩
end CCR
/-! THE CLASS'S cond, all, one: all three -/
section CCS
variable {n t : Nat} {B : Nat → Int32}
theorem cm_20 : ((8 : Int32), (0 : Int32), (0 : Int32)) = cM (20, 0, 0) := by decide
def Hyp (B : Nat → Int32) (n t e me : Nat) (pad : Lo) (P : Nat → Sg → PR) : Prop := ∀ (dep : Nat) (dz : Int32) (s : Sg) (M M' : Mem) (v : Option Value), dz.toInt = (dep : Int) → dep ≤ 11 → CSt B n t M s → Ev none e me 0 (some (.ref 3) :: some (.int dz) :: pad) [] M v M' 0 0 → FA (fP t) (wP t) M M' ∧ RSt B n t M' v (P dep s)
theorem all_ok {e : Nat} {O : Nat → Sg → PR} (ht : gNth sT t = some 28) (hn2 : n ≤ 440) (hO : Hyp B n t e 38 [none, none] O) (hG : ∀ dep s s2, O dep s = .inl s2 → Gw s s2) : Hyp B n t (e + 1) 37 [none] (allB B O) := by
  intro dep dz s M M' v hdz hdep hC H
  obtain ⟨e1, v1, M1, he, H1, H⟩ := al_0 hC.1 H
  cases he
  obtain ⟨F1, R1⟩ := hO dep dz s _ _ _ hdz hdep hC H1
  unfold allB
  cases hr : O dep s with
  | inr f =>
    rw [hr] at R1
    obtain ⟨rfl, S1, r1, r2⟩ := RS_err R1
    rcases al_5 S1 H with ⟨_, h3, rfl⟩ | ⟨h3, _⟩
    · exact ⟨F1, h3, S1, r1, r2⟩
    · exact absurd rfl h3
  | inl s2 =>
    rw [hr] at R1
    obtain ⟨rfl, C1⟩ := RS_ok R1
    rcases al_5 C1.1 H with ⟨h3, _⟩ | ⟨_, H⟩
    · exact absurd h3 (by decide)
    obtain ⟨F2, R2⟩ := al_loop ht hn2 (fun s M M' v hC H => hO dep dz s M M' v hdz hdep hC H) (hG dep) 40 0 s2 _ _ _ (Nat.le_refl _) rfl C1 H
    exact ⟨F1.tr F2, R2⟩
theorem con_ok {e : Nat} {A : Nat → Sg → PR} (ht : gNth sT t = some 28) (hn2 : n ≤ 440) (hA : Hyp B n t e 37 [none] A) (hG : ∀ dep s s2, A dep s = .inl s2 → Gw s s2) : Hyp B n t (e + 1) 36 [none] (conB B A) := by
  intro dep dz s M M' v hdz hdep hC H
  obtain ⟨e1, v1, M1, he, H1, H⟩ := coq_0 hC.1 H
  cases he
  obtain ⟨F1, R1⟩ := hA dep dz s _ _ _ hdz hdep hC H1
  unfold conB
  cases hr : A dep s with
  | inr f =>
    rw [hr] at R1
    obtain ⟨rfl, S1, r1, r2⟩ := RS_err R1
    rcases coq_5 S1 H with ⟨_, h3, rfl⟩ | ⟨h3, _⟩
    · exact ⟨F1, h3, S1, r1, r2⟩
    · exact absurd rfl h3
  | inl s2 =>
    rw [hr] at R1
    obtain ⟨rfl, C1⟩ := RS_ok R1
    rcases coq_5 C1.1 H with ⟨h3, _⟩ | ⟨_, H⟩
    · exact absurd h3 (by decide)
    obtain ⟨F2, R2⟩ := coq_loop ht hn2 (fun s M M' v hC H => hA dep dz s M M' v hdz hdep hC H) (hG dep) 40 0 s2 _ _ _ (Nat.le_refl _) rfl C1 H
    exact ⟨F1.tr F2, R2⟩
/-- an ONE, behind its first token -/
theorem one_61 {e dep : Nat} {dz : Int32} {C O : Nat → Sg → PR} {s : Sg} {M M' : Mem} {v : Option Value} {a : Int32} (ht : gNth sT t = some 28) (hC0 : Hyp B n t e 36 [none] C) (hO0 : Hyp B n t e 38 [none, none] O) (gO : ∀ dep s s2, O dep s = .inl s2 → Gw s s2) (hdz : dz.toInt = (dep : Int)) (hdep : dep ≤ 10) (ha : a < 0 ∨ (0 ≤ a.toInt ∧ a.toInt ≤ 12)) (hC : CSt B n t M s) (hl : s.2.2.length + 2 ≤ 2 * s.2.1) (H : Ev none (e + 1) 38 61 [some (.ref 3), some (.int dz), some (.int a), none] [] M v M' 0 0) : FA (fP t) (wP t) M M' ∧ RSt B n t M' v (if a < 0 then (match C (dep + 1) s with
    | .inr f => .inr f
    | .inl s2 => if (hdT s2.1).1 ≠ 41 then .inr (1, (hdT s2.1).2.1) else .inl (s2.1.tail, s2.2.1, s2.2.2))
  else if a = 12 then (match O (dep + 1) s with
    | .inr f => .inr f
    | .inl s2 => .inl (s2.1, s2.2.1, s2.2.2 ++ [(20, 0, 0)]))
  else if 8 ≤ a then cmpS a s
  else .inl (s.1, s.2.1, s.2.2 ++ [(a, 0, 0)])) := by
  have hd1 : (dz + 1).toInt = ((dep + 1 : Nat) : Int) := by rw [i32_p1 (by omega)]; omega
  have z0 : (0 : Int32).toInt = 0 := rfl
  have na : ∀ {m : Nat}, m ≤ 12 → ¬ nI m < 0 ∧ (0 : Int32) ≤ nI m := fun {m} hm => (one_tab m hm).2.2
  by_cases hneg : a < 0
  · rw [if_pos hneg]
    have hn0 : ¬ 0 ≤ a := fun q => by rw [Int32.lt_iff_toInt_lt] at hneg; rw [Int32.le_iff_toInt_le] at q; omega
    rcases onq_61 hC.1 H with ⟨h, _⟩ | ⟨h, _⟩ | ⟨h, _⟩ | ⟨_, e1, v1, M1, he, H1, H⟩
    · exact absurd h hn0
    · exact absurd h hn0
    · exact absurd h hn0
    cases he
    obtain ⟨F1, R1⟩ := hC0 (dep + 1) (dz + 1) s _ _ _ hd1 (by omega) hC H1
    cases hr : C (dep + 1) s with
    | inr f =>
      rw [hr] at R1
      obtain ⟨rfl, S1, r1, r2⟩ := RS_err R1
      rcases onq_72 S1 H with ⟨_, h3, rfl⟩ | ⟨h3, _⟩ | ⟨h3, _⟩
      · exact ⟨F1, h3, S1, r1, r2⟩
      · exact absurd rfl h3
      · exact absurd rfl h3
    | inl s2 =>
      rw [hr] at R1
      obtain ⟨rfl, C1⟩ := RS_ok R1
      have b5 := C1.2.2.1.at.2.2.2.2.1
      show FA (fP t) (wP t) M M' ∧ RSt B n t M' v (if (hdT s2.1).1 ≠ 41 then .inr (1, (hdT s2.1).2.1) else .inl (s2.1.tail, s2.2.1, s2.2.2))
      rcases onq_72 C1.1 H with ⟨h3, _⟩ | ⟨_, h4, e2, v2, M2, he, H2, H⟩ | ⟨_, h4, e2, v2, M2, he, H2, H⟩
      · exact absurd h3 (by decide)
      · rw [b5] at h4
        rw [if_neg (fun q => q h4)]
        obtain ⟨rfl, F2, C2⟩ := C1.go ht (by rw [h4]; decide) (by rw [h4]; decide) H2
        obtain ⟨r1, rfl⟩ := onq_96 C2.1 H
        exact ⟨F1.tr F2, r1, C2⟩
      · rw [b5] at h4
        rw [if_pos h4]
        obtain ⟨r1, r2⟩ := fail_ret (v := v) (M' := M') C1 H2 (fun y hy => by subst hy; exact onq_91 (RS_err (C1.fail H2).2).2.1 H)
        exact ⟨F1.tr r1, r2⟩
  · rw [if_neg hneg]
    rcases ha with ha | ⟨ha0, ha1⟩
    · exact absurd ha hneg
    obtain ⟨m, hm, rfl⟩ := i32_in (k := 12) ha0 ha1 (by omega)
    obtain ⟨t1, t2, _, t4⟩ := one_tab m hm
    by_cases h12 : nI m = 12
    · rw [if_pos h12]
      have h8 := t1.mpr h12
      rcases onq_61 hC.1 H with ⟨_, _, e1, v1, M1, he, H1, H⟩ | ⟨_, h, _⟩ | ⟨_, h, _⟩ | ⟨h, _⟩
      rotate_left
      · exact absurd h8 h
      · exact absurd h8 h
      · exact absurd t4 h
      cases he
      obtain ⟨F1, R1⟩ := hO0 (dep + 1) (dz + 1) s _ _ _ hd1 (by omega) hC H1
      cases hr : O (dep + 1) s with
      | inr f =>
        rw [hr] at R1
        obtain ⟨rfl, S1, r1, r2⟩ := RS_err R1
        rcases onq_117 S1 H with ⟨_, h3, rfl⟩ | ⟨h3, _⟩
        · exact ⟨F1, h3, S1, r1, r2⟩
        · exact absurd rfl h3
      | inl s2 =>
        rw [hr] at R1
        obtain ⟨rfl, C1⟩ := RS_ok R1
        obtain ⟨g1, g2, g3⟩ := gO _ _ _ hr
        rcases onq_117 C1.1 H with ⟨h3, _⟩ | ⟨_, e2, v2, M2, he, H2, H⟩
        · exact absurd h3 (by decide)
        obtain ⟨rfl, F2, C2⟩ := C1.emit ht (c := (20, 0, 0)) (by omega) cm_20 H2
        obtain ⟨r1, rfl⟩ := onq_130 C2.1 H
        exact ⟨F1.tr F2, r1, C2⟩
    · rw [if_neg h12]
      have hm12 : m < 12 := by
        by_cases q : m < 12
        · exact q
        · exact absurd (by rw [show m = 12 from by omega]; rfl) h12
      have t3 := t2 hm12
      have n8 : ¬ sI 3 (nI m) = 8 := fun q => h12 (t1.mp q)
      by_cases h8 : 8 ≤ nI m
      · rw [if_pos h8]
        have hm8 : 8 ≤ m := by
          rw [Int32.le_iff_toInt_le, nI_toInt (lt31 (by omega))] at h8
          have o8 : (8 : Int32).toInt = 8 := rfl
          omega
        rcases onq_61 hC.1 H with ⟨_, h, _⟩ | ⟨_, _, h, _⟩ | ⟨_, _, _, e1, v1, M1, he, H1, H⟩ | ⟨h, _⟩
        · exact absurd h n8
        · exact absurd h8 (t3.mp h)
        · obtain ⟨F1, R1⟩ := cmp_ok ht hm8 (by omega) hC (by omega) H1
          cases hr : cmpS (nI m) s with
          | inr f =>
            rw [hr] at R1
            obtain ⟨rfl, S1, r1, r2⟩ := RS_err R1
            obtain ⟨h3, rfl⟩ := onq_142 S1 H
            exact ⟨F1, h3, S1, r1, r2⟩
          | inl s2 =>
            rw [hr] at R1
            obtain ⟨rfl, C1⟩ := RS_ok R1
            obtain ⟨h3, rfl⟩ := onq_142 C1.1 H
            exact ⟨F1, h3, C1⟩
        · exact absurd t4 h
      · rw [if_neg h8]
        have hm7 : m ≤ 7 := by
          by_cases q : m ≤ 7
          · exact q
          · refine absurd (Int32.le_iff_toInt_le.mpr ?_) h8
            rw [nI_toInt (lt31 (by omega))]
            have o8 : (8 : Int32).toInt = 8 := rfl
            omega
        rcases onq_61 hC.1 H with ⟨_, h, _⟩ | ⟨_, _, h, e1, v1, M1, he, H1, H⟩ | ⟨_, _, h, _⟩ | ⟨h, _⟩
        · exact absurd h n8
        · obtain ⟨rfl, F1, C1⟩ := hC.emit ht (by omega) (cM_flag m hm7) H1
          obtain ⟨r1, rfl⟩ := onq_158 C1.1 H
          exact ⟨F1, r1, C1⟩
        · exact absurd (t3.mpr h8) h
        · exact absurd t4 h
theorem oneq_ok {e : Nat} {C O : Nat → Sg → PR} (ht : gNth sT t = some 28) (hn2 : n ≤ 440) (hC0 : Hyp B n t e 36 [none] C) (hO0 : Hyp B n t e 38 [none, none] O) (gO : ∀ dep s s2, O dep s = .inl s2 → Gw s s2) : Hyp B n t (e + 1) 38 [none, none] (oneB B C O) := by
  intro dep dz s M M' v hdz hdep hC H
  have o40 : (40 : Int32).toInt = 40 := rfl
  have o10 : (10 : Int32).toInt = 10 := rfl
  have z0 : (0 : Int32).toInt = 0 := rfl
  have c5 := hC.2.2.1.at.2.2.2.2.1
  have c11 := hC.2.2.2.1
  obtain ⟨e1, v1, M1, he, H1, H⟩ := onq_0 hC.1 H
  obtain ⟨rfl, rfl⟩ := amq_all (ws := oneW) hC.1 hn2 hC.2.2.1 rfl (by decide) (List.cons_ne_nil _ _) (by decide) (by decide) H1
  rw [hC.wd] at H
  generalize ha : ixF (wdS B (hdT s.1)) oneW 0 = a at H
  have hneg : ∀ x : Int32, x < 0 ↔ ¬ 0 ≤ x := fun x => by rw [Int32.lt_iff_toInt_lt, Int32.le_iff_toInt_le]; omega
  have h40 : (40 ≤ zI M1 3 11) ↔ 40 ≤ s.2.1 := by rw [Int32.le_iff_toInt_le]; omega
  have h10 : (dz ≤ 10) ↔ ¬ 10 < dep := by rw [Int32.le_iff_toInt_le]; omega
  unfold oneB
  rw [ha]
  -- on behind the first token
  have go : ∀ {e2 : Nat} {v2 : Option Value} {M2 : Mem}, (a < 0 → (hdT s.1).1 = 40) → ¬ 40 ≤ s.2.1 → ¬ 10 < dep → Ev none e2 31 0 [some (.ref 3)] [] (wF M1 3 11 (zI M1 3 11 + 1)) v2 M2 0 0 → Ev none (e + 1) 38 61 [some (.ref 3), some (.int dz), some (.int a), none] (v2.toList ++ []) M2 v M' 0 0 → FA (fP t) (wP t) M1 M' ∧ RSt B n t M' v (if a < 0 ∧ (hdT s.1).1 ≠ 40 then .inr (1, (hdT s.1).2.1)
  else if 40 ≤ s.2.1 ∨ 10 < dep then .inr (4, (hdT s.1).2.1)
  else if a < 0 then (match C (dep + 1) (s.1.tail, s.2.1 + 1, s.2.2) with
    | .inr f => .inr f
    | .inl s2 => if (hdT s2.1).1 ≠ 41 then .inr (1, (hdT s2.1).2.1) else .inl (s2.1.tail, s2.2.1, s2.2.2))
  else if a = 12 then (match O (dep + 1) (s.1.tail, s.2.1 + 1, s.2.2) with
    | .inr f => .inr f
    | .inl s2 => .inl (s2.1, s2.2.1, s2.2.2 ++ [(20, 0, 0)]))
  else if 8 ≤ a then cmpS a (s.1.tail, s.2.1 + 1, s.2.2)
  else .inl (s.1.tail, s.2.1 + 1, s.2.2 ++ [(a, 0, 0)])) := by
    intro e2 v2 M2 k1 k2 k3 H2 H
    rw [if_neg (fun q => q.2 (k1 q.1)), if_neg (fun q => q.elim k2 k3)]
    obtain ⟨F1, C1⟩ := hC.one ht (by omega)
    have hty : (hdT s.1).1 = 40 ∨ ((hdT s.1).1 = 2 ∧ 0 ≤ a.toInt ∧ a.toInt ≤ 12) := by
      by_cases q : a < 0
      · exact Or.inl (k1 q)
      · rw [← ha] at q
        have h := one_wd q
        rw [ha] at h
        exact Or.inr h
    obtain ⟨rfl, F2, C2⟩ := C1.go ht (hty.elim (fun q => by rw [show (hdT (s.1, s.2.1 + 1, s.2.2).1).1 = 40 from q]; decide) (fun q => by rw [show (hdT (s.1, s.2.1 + 1, s.2.2).1).1 = 2 from q.1]; decide)) (hty.elim (fun q => by rw [show (hdT (s.1, s.2.1 + 1, s.2.2).1).1 = 40 from q]; decide) (fun q => by rw [show (hdT (s.1, s.2.1 + 1, s.2.2).1).1 = 2 from q.1]; decide)) H2
    have g8 := hC.2.2.2.2.2.2.2.1
    have ha2 : a < 0 ∨ (0 ≤ a.toInt ∧ a.toInt ≤ 12) := by
      by_cases q : a < 0
      · exact Or.inl q
      · rw [← ha] at q
        have h := one_wd q
        rw [ha] at h
        exact Or.inr h.2
    obtain ⟨F3, R3⟩ := one_61 ht hC0 hO0 gO hdz (by omega) ha2 C2 (by dsimp only; omega) H
    exact ⟨(F1.tr F2).tr F3, R3⟩
  have er4 : ∀ {e2 : Nat} {v2 : Option Value} {M2 : Mem}, (a < 0 → (hdT s.1).1 = 40) → (40 ≤ s.2.1 ∨ 10 < dep) → Ev none e2 27 0 [some (.ref 3), some (.int 4)] [] M1 v2 M2 0 0 → Ev none (e + 1) 38 46 [some (.ref 3), some (.int dz), some (.int a), none] (v2.toList ++ []) M2 v M' 0 0 → ∀ r : PR, FA (fP t) (wP t) M1 M' ∧ RSt B n t M' v (if a < 0 ∧ (hdT s.1).1 ≠ 40 then .inr (1, (hdT s.1).2.1) else if 40 ≤ s.2.1 ∨ 10 < dep then .inr (4, (hdT s.1).2.1) else r) := by
    intro e2 v2 M2 k1 k2 H2 H r
    rw [if_neg (fun q => q.2 (k1 q.1)), if_pos k2]
    exact fail_ret hC H2 (fun y hy => by subst hy; exact onq_46 (RS_err (hC.fail H2).2).2.1 H)
  rcases onq_6 hC.1 H with ⟨h1, h2, e2, v2, M2, he2, H2, H⟩ | ⟨h1, h2, h3, e2, v2, M2, he2, H2, H⟩ | ⟨h1, h2, h3, e2, v2, M2, he2, H2, H⟩ | ⟨h1, h2, h3, e2, v2, M2, he2, H2, H⟩ | ⟨h1, h2, h3, h4, e2, v2, M2, he2, H2, H⟩ | ⟨h1, h2, h3, h4, e2, v2, M2, he2, H2, H⟩ | ⟨h1, h2, e2, v2, M2, he2, H2, H⟩
  · exact er4 (fun q => absurd h1 ((hneg a).mp q)) (Or.inl (h40.mp h2)) H2 H _
  · exact go (fun q => absurd h1 ((hneg a).mp q)) (fun q => h2 (h40.mpr q)) (h10.mp h3) H2 H
  · refine er4 (fun q => absurd h1 ((hneg a).mp q)) (Or.inr ?_) H2 H _
    by_cases q : 10 < dep
    · exact q
    · exact absurd (h10.mpr q) h3
  · rw [c5] at h2
    exact er4 (fun _ => h2) (Or.inl (h40.mp h3)) H2 H _
  · rw [c5] at h2
    exact go (fun _ => h2) (fun q => h3 (h40.mpr q)) (h10.mp h4) H2 H
  · rw [c5] at h2
    refine er4 (fun _ => h2) (Or.inr ?_) H2 H _
    by_cases q : 10 < dep
    · exact q
    · exact absurd (h10.mpr q) h4
  · rw [c5] at h2
    rw [if_pos ⟨(hneg a).mpr h1, h2⟩]
    exact fail_ret hC H2 (fun y hy => by subst hy; exact onq_25 (RS_err (hC.fail H2).2).2.1 H)
theorem cc_main (ht : gNth sT t = some 28) (hn2 : n ≤ 440) : ∀ e : Nat, Hyp B n t e 36 [none] (prS B e).1 ∧ Hyp B n t e 37 [none] (prS B e).2.1 ∧ Hyp B n t e 38 [none, none] (prS B e).2.2 := by
  intro e
  induction e with
  | zero =>
    refine ⟨fun dep dz s M M' v _ _ hC H => ?_, fun dep dz s M M' v _ _ hC H => ?_, fun dep dz s M M' v _ _ hC H => ?_⟩
    · obtain ⟨e1, _, _, he, _⟩ := coq_0 hC.1 H
      cases he
    · obtain ⟨e1, _, _, he, _⟩ := al_0 hC.1 H
      cases he
    · obtain ⟨e1, _, _, he, _⟩ := onq_0 hC.1 H
      cases he
  | succ e ih =>
    exact ⟨con_ok ht hn2 ih.2.1 (sp_bd e).2.1, all_ok ht hn2 ih.2.2 (sp_bd e).2.2, oneq_ok ht hn2 ih.1 ih.2.2 (sp_bd e).2.2⟩
end CCS
/-! WORDS AS NUMBERS (l64_, u64_, s64_, o64_: turned from the kit's rows of bits) -/
theorem l64_tb (n : Nat) : (lN n).toBitVec = BitVec.ofNat 64 n := rfl
theorem u64_tn {n : Nat} (h : n < 2 ^ 64) : (UInt64.ofNat n).toNat = n := Nat.mod_eq_of_lt h
theorem l64_inj {a b : Nat} (ha : a < 2 ^ 64) (hb : b < 2 ^ 64) (h : lN a = lN b) : a = b := by
  have h2 := congrArg (fun x : Int64 => x.toBitVec.toNat) h
  have e : ∀ n, n < 2 ^ 64 → (lN n).toBitVec.toNat = n := fun n hn => by rw [l64_tb, BitVec.toNat_ofNat, Nat.mod_eq_of_lt hn]
  have h2 : (lN a).toBitVec.toNat = (lN b).toBitVec.toNat := h2
  rw [e a ha, e b hb] at h2
  exact h2
theorem s64_8 : (((8 : Int32).toInt64 &&& 63).toBitVec.smod 64) = BitVec.ofNat 64 8 := by decide +kernel
theorem s64_shl {a : Nat} (ha : a < 2 ^ 64) : lN a <<< ((8 : Int32).toInt64 &&& 63) = lN (a * 256) := by
  apply Int64.toBitVec_inj.mp
  rw [Int64.toBitVec_shiftLeft, s64_8]
  apply BitVec.eq_of_toNat_eq
  have hb : (lN a).toBitVec.toNat = a := by rw [l64_tb, BitVec.toNat_ofNat, Nat.mod_eq_of_lt ha]
  rw [BitVec.shiftLeft_eq', BitVec.toNat_shiftLeft, BitVec.toNat_ofNat, hb, l64_tb, BitVec.toNat_ofNat, Nat.shiftLeft_eq]
theorem o64_or {a b : Nat} (ha : a < 256) (h : b * 256 + a < 2 ^ 64) : lN (b * 256) ||| lN a = lN (b * 256 + a) := by
  have h1 : b * 256 ||| a = b * 256 + a := by
    have h9 : b * 256 = b <<< 8 := by rw [Nat.shiftLeft_eq]
    rw [h9, Nat.shiftLeft_add_eq_or_of_lt (show a < 2 ^ 8 from ha)]
  have h3 : UInt64.ofNat (b * 256) ||| UInt64.ofNat a = UInt64.ofNat (b * 256 + a) := UInt64.toNat_inj.mp (by rw [UInt64.toNat_or, u64_tn (Nat.lt_of_le_of_lt (Nat.le_add_right _ _) h), u64_tn (Nat.lt_of_le_of_lt (Nat.le_add_left _ _) h), u64_tn h, h1])
  have h2 := congrArg UInt64.toInt64 h3
  exact h2
theorem b64 : ∀ b, b < 256 → (nI b).toInt64 = lN b := by decide +kernel
theorem pk1_ok {a b : Nat} (hb : b < 256) (h : (a + 1) * 256 ≤ 2 ^ 56) : pk1 (lN a) (nI b) = lN (a * 256 + b) := by
  have p56 : (2 : Nat) ^ 56 = 72057594037927936 := by decide
  have p64 : (2 : Nat) ^ 64 = 18446744073709551616 := by decide
  unfold pk1
  rw [s64_shl (by omega), b64 b hb, o64_or hb (by omega)]
noncomputable def pkN (l : List Nat) : Nat := l.foldl (fun w c => w * 256 + c) 0
theorem pkF_N : ∀ (l : List Nat) (a : Nat), (∀ c ∈ l, c < 256) → (a + 1) * 256 ^ l.length ≤ 2 ^ 56 → (l.map nI).foldl pk1 (lN a) = lN (l.foldl (fun w c => w * 256 + c) a) ∧ l.foldl (fun w c => w * 256 + c) a < (a + 1) * 256 ^ l.length := by
  intro l
  induction l with
  | nil =>
    intro a _ _
    exact ⟨rfl, by rw [List.length_nil, Nat.pow_zero]; show a < (a + 1) * 1; omega⟩
  | cons b l ih =>
    intro a hl h
    have hb := hl b List.mem_cons_self
    rw [List.length_cons, Nat.pow_succ] at h
    have e1 : (a * 256 + b + 1) * 256 ^ l.length ≤ (a + 1) * (256 ^ l.length * 256) := by
      rw [Nat.mul_comm (256 ^ l.length) 256, ← Nat.mul_assoc]
      exact Nat.mul_le_mul_right _ (by omega)
    have e2 : (a + 1) * 256 ≤ 2 ^ 56 := by
      refine Nat.le_trans ?_ h
      rw [Nat.mul_comm (256 ^ l.length) 256, ← Nat.mul_assoc]
      exact Nat.le_mul_of_pos_right _ (Nat.pow_pos (by decide))
    obtain ⟨g1, g2⟩ := ih (a * 256 + b) (fun c hc => hl c (List.mem_cons_of_mem _ hc)) (Nat.le_trans e1 h)
    refine ⟨?_, ?_⟩
    · show (l.map nI).foldl pk1 (pk1 (lN a) (nI b)) = _
      rw [pk1_ok hb e2]
      exact g1
    · show l.foldl (fun w c => w * 256 + c) (a * 256 + b) < _
      rw [List.length_cons, Nat.pow_succ]
      omega
noncomputable def unN : Nat → Nat → List Nat
  | 0, _ => []
  | f + 1, x => if x = 0 then [] else unN f (x / 256) ++ [x % 256]
theorem unN_ok : ∀ (f : Nat) (l : List Nat), l.length < f → (∀ c ∈ l, 1 ≤ c ∧ c < 256) → unN f (pkN l) = l := by
  intro f
  induction f with
  | zero => intro l h; omega
  | succ f ih =>
    intro l h hl
    rcases List.eq_nil_or_concat l with rfl | ⟨l2, c, rfl⟩
    · rfl
    · rw [List.concat_eq_append] at *
      have hc := hl c (List.mem_append_right _ List.mem_cons_self)
      have e : pkN (l2 ++ [c]) = pkN l2 * 256 + c := by
        unfold pkN
        rw [List.foldl_append]
        rfl
      rw [List.length_append] at h
      have h : l2.length + 1 < f + 1 := h
      unfold unN
      rw [e, if_neg (by omega), show (pkN l2 * 256 + c) / 256 = pkN l2 from by omega, show (pkN l2 * 256 + c) % 256 = c from by omega, ih l2 (by omega) (fun x hx => hl x (List.mem_append_left _ hx))]
def okW (w : List Int32) : Prop := w.length ≤ 6 ∧ ∀ c ∈ w, 1 ≤ c.toInt ∧ c.toInt ≤ 255
theorem okW_N {w : List Int32} (h : okW w) : ∃ l : List Nat, w = l.map nI ∧ l.length ≤ 6 ∧ ∀ c ∈ l, 1 ≤ c ∧ c < 256 := by
  refine ⟨w.map (fun c => c.toInt.toNat), ?_, by rw [List.length_map]; exact h.1, fun c hc => ?_⟩
  · rw [List.map_map]
    refine (List.map_id w).symm.trans (List.map_congr_left (fun c hc => ?_))
    have := h.2 c hc
    have p31 : (2 : Nat) ^ 31 = 2147483648 := by decide
    refine Int32.toInt_inj.mp ?_
    show c.toInt = (nI c.toInt.toNat).toInt
    rw [nI_toInt (by omega)]
    omega
  · obtain ⟨x, hx, rfl⟩ := List.mem_map.mp hc
    have := h.2 x hx
    omega
theorem pkq_inj {w u : List Int32} (hw : okW w) (hu : okW u) (h : pkF w = pkF u) : w = u := by
  obtain ⟨l, rfl, l1, l2⟩ := okW_N hw
  obtain ⟨k, rfl, k1, k2⟩ := okW_N hu
  have p56 : (2 : Nat) ^ 56 = 72057594037927936 := by decide
  have p64 : (2 : Nat) ^ 64 = 18446744073709551616 := by decide
  have p6 : ∀ m : Nat, m ≤ 6 → 256 ^ m ≤ 281474976710656 := fun m hm => Nat.le_trans (Nat.pow_le_pow_right (by decide) hm) (by decide)
  obtain ⟨g1, g2⟩ := pkF_N l 0 (fun c hc => (l2 c hc).2) (by have := p6 _ l1; omega)
  obtain ⟨g3, g4⟩ := pkF_N k 0 (fun c hc => (k2 c hc).2) (by have := p6 _ k1; omega)
  have h : (l.map nI).foldl pk1 (lN 0) = (k.map nI).foldl pk1 (lN 0) := h
  rw [g1, g3] at h
  have q1 := p6 _ l1
  have q2 := p6 _ k1
  have h2 := l64_inj (by omega) (by omega) h
  have h3 : pkN l = pkN k := h2
  rw [← unN_ok 7 l (by omega) l2, h3, unN_ok 7 k (by omega) k2]
/-! words of a text's tokens -/
theorem rlS_al {B : Nat → Int32} : ∀ f p i, i < rlS B f p → ¬ (smI (B (p + i)) = 0 ∧ dgI (B (p + i)) = 0) := by
  intro f
  induction f with
  | zero => intro p i h; exact absurd h (Nat.not_lt_zero i)
  | succ f ih =>
    intro p i h
    unfold rlS at h
    by_cases hq : smI (B p) = 0 ∧ dgI (B p) = 0
    · rw [if_pos hq] at h
      exact absurd h (Nat.not_lt_zero i)
    · rw [if_neg hq] at h
      cases i with
      | zero => exact hq
      | succ i =>
        have h1 := ih (p + 1) i (by omega)
        rw [show p + 1 + i = p + (i + 1) from by omega] at h1
        exact h1
theorem al_rng {c : Int32} (h : ¬ (smI c = 0 ∧ dgI c = 0)) : 1 ≤ c.toInt ∧ c.toInt ≤ 255 := by
  have o1 : (97 : Int32).toInt = 97 := rfl
  have o2 : (122 : Int32).toInt = 122 := rfl
  have o3 : (48 : Int32).toInt = 48 := rfl
  have o4 : (57 : Int32).toInt = 57 := rfl
  unfold smI dgI at h
  by_cases h1 : c < 97
  · by_cases h2 : c < 48
    · exact absurd ⟨by rw [if_pos h1], by rw [if_pos h2]⟩ h
    · by_cases h3 : 57 < c
      · exact absurd ⟨by rw [if_pos h1], by rw [if_neg h2, if_pos h3]⟩ h
      · rw [Int32.lt_iff_toInt_lt] at h1 h2 h3
        omega
  · by_cases h4 : 122 < c
    · have h2 : ¬ c < 48 := fun q => by rw [Int32.lt_iff_toInt_lt] at q h4; omega
      have h3 : 57 < c := by rw [Int32.lt_iff_toInt_lt] at h4 ⊢; omega
      exact absurd ⟨by rw [if_neg h1, if_pos h4], by rw [if_neg h2, if_pos h3]⟩ h
    · rw [Int32.lt_iff_toInt_lt] at h1 h4
      omega
/-- the words among the tokens are words -/
def gdT (B : Nat → Int32) (ts : List Tok) : Prop := ∀ t ∈ ts, (t.1 = 2 → t.2.2.1 ≤ t.2.1 + 6 → okW (slS B t.2.1 (t.2.2.1 - t.2.1))) ∧ (t.1 = 3 → 0 ≤ t.2.2.2.toInt)
/-- digits and their value -/
def nvI (a : Acc) (m : Nat) : Prop := 0 ≤ a.2.1.toInt ∧ a.2.1.toInt ≤ (m : Int) ∧ 0 ≤ a.2.2.toInt ∧ a.2.2.toInt ≤ 999 ∧ (a.2.1.toInt ≤ 0 → a.2.2.toInt ≤ 0) ∧ (a.2.1.toInt ≤ 1 → a.2.2.toInt ≤ 9) ∧ (a.2.1.toInt ≤ 2 → a.2.2.toInt ≤ 99)
theorem cs1_nv {c : Int32} {a : Acc} {m : Nat} (hc : ¬ (smI c = 0 ∧ dgI c = 0)) (h : nvI a m) (hm : m ≤ 1000) : nvI (cs1 c a) (m + 1) := by
  obtain ⟨h1, h2, h3, h4, h5, h6, h7⟩ := h
  unfold cs1
  by_cases q : smI c = 0
  · rw [if_pos q]
    have d : ¬ dgI c = 0 := fun x => hc ⟨q, x⟩
    unfold dgI at d
    have c1 : 48 ≤ c.toInt ∧ c.toInt ≤ 57 := by
      have e48 : (48 : Int32).toInt = 48 := rfl
      have e57 : (57 : Int32).toInt = 57 := rfl
      by_cases x1 : c < 48
      · rw [if_pos x1] at d
        exact absurd rfl d
      · rw [if_neg x1] at d
        by_cases x2 : 57 < c
        · rw [if_pos x2] at d
          exact absurd rfl d
        · rw [Int32.lt_iff_toInt_lt] at x1 x2
          omega
    have e1 : (a.2.1 + 1).toInt = a.2.1.toInt + 1 := i32_p1 (by omega)
    have e3 : (3 : Int32).toInt = 3 := rfl
    have e10 : (10 : Int32).toInt = 10 := rfl
    have e48 : (48 : Int32).toInt = 48 := rfl
    have v1 : ((10 : Int32) * a.2.2).toInt = 10 * a.2.2.toInt := by
      rw [i32_mul (by rw [e10]; omega) (by rw [e10]; omega), e10]
    have v2 : ((10 : Int32) * a.2.2 + c).toInt = 10 * a.2.2.toInt + c.toInt := by
      rw [i32_add (by omega) (by omega), v1]
    have v3 : ((10 : Int32) * a.2.2 + c - 48).toInt = 10 * a.2.2.toInt + c.toInt - 48 := by
      rw [i32_sub (by omega) (by omega), v2, e48]
    by_cases x3 : 3 < a.2.1 + 1
    · rw [if_pos x3]
      rw [Int32.lt_iff_toInt_lt, e1] at x3
      refine ⟨?_, ?_, h3, h4, ?_, ?_, ?_⟩ <;> dsimp only <;> rw [e1] <;> omega
    · rw [if_neg x3]
      rw [Int32.lt_iff_toInt_lt, e1] at x3
      refine ⟨?_, ?_, ?_, ?_, ?_, ?_, ?_⟩ <;> dsimp only <;> (try rw [e1]) <;> (try rw [v3]) <;> omega
  · rw [if_neg q]
    exact ⟨h1, by show a.2.1.toInt ≤ _; omega, h3, h4, h5, h6, h7⟩
theorem cfS_nv {B : Nat → Int32} : ∀ k p (a : Acc) m, (∀ j, j < k → ¬ (smI (B (p + j)) = 0 ∧ dgI (B (p + j)) = 0)) → nvI a m → m + k ≤ 1000 → nvI (cfS B k p a) (m + k) := by
  intro k
  induction k with
  | zero => intro p a m _ h _; exact h
  | succ k ih =>
    intro p a m hj h hm
    have h1 := cs1_nv (hj 0 (by omega)) h (by omega)
    have h2 := ih (p + 1) _ (m + 1) (fun j hk => by
      have := hj (j + 1) (by omega)
      rw [show p + 1 + j = p + (j + 1) from by omega]
      exact this) h1 (by omega)
    rw [show m + (k + 1) = m + 1 + k from by omega]
    exact h2
theorem tokS_nu {B : Nat → Int32} {n p : Nat} (hn : n ≤ 440) : 0 ≤ (tokS B n p).2.2.2.toInt := by
  unfold tokS
  split
  · exact Int.le_refl 0
  · have := rlS_le (B := B) (n - p) p
    have h := (cfS_nv (B := B) (rlS B (n - p) p) p (0, 0, 0) 0 (fun j hj => rlS_al _ _ _ hj) ⟨by decide, by decide, by decide, by decide, by decide, by decide, by decide⟩ (by omega)).2.2.1
    exact h
theorem tokS_gd {B : Nat → Int32} {n p : Nat} (h : (tokS B n p).1 = 2) (h6 : (tokS B n p).2.2.1 ≤ (tokS B n p).2.1 + 6) : okW (slS B (tokS B n p).2.1 ((tokS B n p).2.2.1 - (tokS B n p).2.1)) := by
  by_cases hr : rlS B (n - p) p = 0
  · have hT : tokS B n p = (sgS (B p), p, p + 1, 0) := by
      unfold tokS
      rw [if_pos hr]
    rw [hT] at h
    have h : sgS (B p) = 2 := h
    unfold sgS at h
    split at h
    · rename_i q
      rw [h] at q
      exact absurd q (by decide)
    · exact absurd h (by decide)
  · have hT : tokS B n p = (tyA (cfS B (rlS B (n - p) p) p (0, 0, 0)), p, p + rlS B (n - p) p, (cfS B (rlS B (n - p) p) p (0, 0, 0)).2.2) := by
      unfold tokS
      rw [if_neg hr]
    rw [hT] at h6 ⊢
    dsimp only at h6 ⊢
    rw [Nat.add_sub_cancel_left]
    refine ⟨by rw [slS_len]; omega, fun c hc => ?_⟩
    unfold slS at hc
    obtain ⟨i, hi, rfl⟩ := List.mem_map.mp hc
    exact al_rng (rlS_al _ _ _ (List.mem_range.mp hi))
theorem tlS_gd {B : Nat → Int32} {n : Nat} (hn : n ≤ 440) : ∀ m p, n - p ≤ m → p ≤ n → gdT B (tlS B n p) := by
  intro m
  induction m with
  | zero =>
    intro p h1 h2
    have hm := mn4_le (n := n)
    rw [tlS_end h2 (by omega)]
    intro t ht
    rw [List.mem_singleton.mp ht]
    exact ⟨fun h => absurd h (show ¬ (0 : Int32) = 2 by decide), fun h => absurd h (show ¬ (0 : Int32) = 3 by decide)⟩
  | succ m ih =>
    intro p h1 h2
    have hm := mn4_le (n := n)
    by_cases h : mn4 n ≤ p
    · rw [tlS_end h2 h]
      intro t ht
      rw [List.mem_singleton.mp ht]
      exact ⟨fun h => absurd h (show ¬ (0 : Int32) = 2 by decide), fun h => absurd h (show ¬ (0 : Int32) = 3 by decide)⟩
    · by_cases hb : B p = 32 ∨ B p = 10
      · rw [tlS_bl h hb]
        exact ih (p + 1) (by omega) (by omega)
      · by_cases h1 : (tokS B n p).1 = 1
        · rw [tlS_no h hb h1]
          intro t ht
          rw [List.mem_singleton.mp ht, h1]
          exact ⟨fun h => absurd h (by decide), fun h => absurd h (by decide)⟩
        · rw [tlS_tok h hb h1]
          have h3 := tokS_lt (B := B) (n := n) (p := p)
          have h4 := tokS_le (B := B) (n := n) (p := p) (by omega)
          intro t ht
          rcases List.mem_cons.mp ht with rfl | ht
          · exact ⟨fun h5 h6 => tokS_gd h5 h6, fun _ => tokS_nu hn⟩
          · exact ih _ (by omega) h4 t ht
/-! THE REFERENCE'S READER: pieces of cond and one (made by gre.py) -/
noncomputable def A_163 (M : Mem) (k : Int32) : Int32 := 0
noncomputable def X_163 (M : Mem) (k : Int32) : Mem := (wF (wF M 633 26 k) 633 27 (zI M 633 23))
theorem g_163 {e : Nat} {M M' : Mem} {v : Option Value} {k : Int32} (hS : SQ M) (H : Ev none e 163 0 [some (.ref 633), some (.int k)] [] M v M' 0 0) : v = some (.int (A_163 M k)) ∧ M' = X_163 M k := by
  unfold A_163 X_163
  have H : Ev none e 163 2 [some (.ref 633), some (.int k)] [.int k, .ref 633] M v M' 0 0 := Ev.back 2 (fun n => rfl) H
  obtain ⟨N2, eN2⟩ : ∃ N, N = (wF M 633 26 k) := ⟨_, rfl⟩
  have hN2 : SQ N2 := by rw [eN2]; exact hS.kf
  have H : Ev none e 163 5 [some (.ref 633), some (.int k)] [] N2 v M' 0 0 := by rw [eN2]; exact Ev.pfi rfl rfl rfl hS.1 qa_633 qi_61_26 H
  have H : Ev none e 163 7 [some (.ref 633), some (.int k)] [.ref 633, .ref 633] N2 v M' 0 0 := Ev.back 2 (fun n => rfl) H
  have H : Ev none e 163 10 [some (.ref 633), some (.int k)] [.int (zI N2 633 23), .ref 633] N2 v M' 0 0 := Ev.back 1 (gs_3 rfl rfl (gf_i hN2.1 qa_633 qi_61_23 rfl)) H
  rw [show zI N2 633 23 = zI M 633 23 from by rw [eN2]; exact fI_wF_ne (fun q => absurd q.2 (by decide))] at H
  obtain ⟨N4, eN4⟩ : ∃ N, N = (wF N2 633 27 (zI M 633 23)) := ⟨_, rfl⟩
  have hN4 : SQ N4 := by rw [eN4]; exact hN2.kf
  have H : Ev none e 163 13 [some (.ref 633), some (.int k)] [] N4 v M' 0 0 := by rw [eN4]; exact Ev.pfi rfl rfl rfl hN2.1 qa_633 qi_61_27 H
  have H : Ev none e 163 14 [some (.ref 633), some (.int k)] [.int 0] N4 v M' 0 0 := Ev.back 1 (fun n => rfl) H
  obtain ⟨p1, p2⟩ := Ev.retz rfl rfl H
  subst eN2 eN4
  exact ⟨p1, p2⟩
theorem X_163_sx {M : Mem} {k : Int32} (hS : SQ M) : SQ (X_163 M k) := by
  unfold X_163
  exact (hS.kf).kf
noncomputable def G_164 (M : Mem) (w : Int64) : Int32 := if (zI M 633 22) = 1 then (if (lg_cmp (fL M 633 31) w) = 0 then 1 else 0) else 0
theorem g_164 {e : Nat} {M M' : Mem} {v : Option Value} {w : Int64} (hS : SQ M) (H : Ev none e 164 0 [some (.ref 633), some (.long w), none] [] M v M' 0 0) : v = some (.int (G_164 M w)) ∧ M' = M := by
  unfold G_164
  have H : Ev none e 164 1 [some (.ref 633), some (.long w), none] [.ref 633] M v M' 0 0 := Ev.back 1 (fun n => rfl) H
  have H : Ev none e 164 4 [some (.ref 633), some (.long w), none] [.int (zI M 633 22)] M v M' 0 0 := Ev.back 1 (gs_3 rfl rfl (gf_i hS.1 qa_633 qi_61_22 rfl)) H
  have H : Ev none e 164 (if (zI M 633 22) = 1 then 8 else 21) [some (.ref 633), some (.long w), none] [] M v M' 0 0 := Ev.back 2 (fun n => rfl) H
  by_cases h1 : (zI M 633 22) = 1
  · rw [if_pos h1] at H
    have H : Ev none e 164 9 [some (.ref 633), some (.long w), none] [.ref 633] M v M' 0 0 := Ev.back 1 (fun n => rfl) H
    have H : Ev none e 164 12 [some (.ref 633), some (.long w), none] [.long (fL M 633 31)] M v M' 0 0 := Ev.back 1 (gs_3 rfl rfl (gf_l hS.1 qa_633 ql_61_31 rfl)) H
    have H : Ev none e 164 (if (lg_cmp (fL M 633 31) w) = 0 then 17 else 21) [some (.ref 633), some (.long w), none] [] M v M' 0 0 := Ev.back 3 (fun n => rfl) H
    by_cases h2 : (lg_cmp (fL M 633 31) w) = 0
    · rw [if_pos h2] at H
      have H : Ev none e 164 22 [some (.ref 633), some (.long w), none] [.int 1] M v M' 0 0 := Ev.back 2 (fun n => rfl) H
      obtain ⟨p1, p2⟩ := Ev.retz rfl rfl H
      exact ⟨by rw [if_pos h1, if_pos h2]; exact p1, p2⟩
    · rw [if_neg h2] at H
      have H : Ev none e 164 22 [some (.ref 633), some (.long w), none] [.int 0] M v M' 0 0 := Ev.back 1 (fun n => rfl) H
      obtain ⟨p1, p2⟩ := Ev.retz rfl rfl H
      exact ⟨by rw [if_pos h1, if_neg h2]; exact p1, p2⟩
  · rw [if_neg h1] at H
    have H : Ev none e 164 22 [some (.ref 633), some (.long w), none] [.int 0] M v M' 0 0 := Ev.back 1 (fun n => rfl) H
    obtain ⟨p1, p2⟩ := Ev.retz rfl rfl H
    exact ⟨by rw [if_neg h1]; exact p1, p2⟩
noncomputable def G_165 (M : Mem) (c : Int32) : Int32 := if (zI M 633 22) = 3 then (if (zI M 633 25) = c then 1 else 0) else 0
theorem g_165 {e : Nat} {M M' : Mem} {v : Option Value} {c : Int32} (hS : SQ M) (H : Ev none e 165 0 [some (.ref 633), some (.int c)] [] M v M' 0 0) : v = some (.int (G_165 M c)) ∧ M' = M := by
  unfold G_165
  have H : Ev none e 165 1 [some (.ref 633), some (.int c)] [.ref 633] M v M' 0 0 := Ev.back 1 (fun n => rfl) H
  have H : Ev none e 165 4 [some (.ref 633), some (.int c)] [.int (zI M 633 22)] M v M' 0 0 := Ev.back 1 (gs_3 rfl rfl (gf_i hS.1 qa_633 qi_61_22 rfl)) H
  have H : Ev none e 165 (if (zI M 633 22) = 3 then 8 else 20) [some (.ref 633), some (.int c)] [] M v M' 0 0 := Ev.back 2 (fun n => rfl) H
  by_cases h1 : (zI M 633 22) = 3
  · rw [if_pos h1] at H
    have H : Ev none e 165 9 [some (.ref 633), some (.int c)] [.ref 633] M v M' 0 0 := Ev.back 1 (fun n => rfl) H
    have H : Ev none e 165 12 [some (.ref 633), some (.int c)] [.int (zI M 633 25)] M v M' 0 0 := Ev.back 1 (gs_3 rfl rfl (gf_i hS.1 qa_633 qi_61_25 rfl)) H
    have H : Ev none e 165 (if (zI M 633 25) = c then 16 else 20) [some (.ref 633), some (.int c)] [] M v M' 0 0 := Ev.back 2 (fun n => rfl) H
    by_cases h2 : (zI M 633 25) = c
    · rw [if_pos h2] at H
      have H : Ev none e 165 21 [some (.ref 633), some (.int c)] [.int 1] M v M' 0 0 := Ev.back 2 (fun n => rfl) H
      obtain ⟨p1, p2⟩ := Ev.retz rfl rfl H
      exact ⟨by rw [if_pos h1, if_pos h2]; exact p1, p2⟩
    · rw [if_neg h2] at H
      have H : Ev none e 165 21 [some (.ref 633), some (.int c)] [.int 0] M v M' 0 0 := Ev.back 1 (fun n => rfl) H
      obtain ⟨p1, p2⟩ := Ev.retz rfl rfl H
      exact ⟨by rw [if_pos h1, if_neg h2]; exact p1, p2⟩
  · rw [if_neg h1] at H
    have H : Ev none e 165 21 [some (.ref 633), some (.int c)] [.int 0] M v M' 0 0 := Ev.back 1 (fun n => rfl) H
    obtain ⟨p1, p2⟩ := Ev.retz rfl rfl H
    exact ⟨by rw [if_neg h1]; exact p1, p2⟩
noncomputable def G_173 (M : Mem) : Int32 := if (zI M 633 22) = 1 then (if (lg_cmp (fL M 633 31) 444300620659) = 0 then 0 else (if (lg_cmp (fL M 633 31) 113740959081836) = 0 then 1 else (if (lg_cmp (fL M 633 31) 6448484) = 0 then 2 else (if (lg_cmp (fL M 633 31) 482671486308) = 0 then 3 else (if (lg_cmp (fL M 633 31) 495874044019) = 0 then 4 else (if (lg_cmp (fL M 633 31) 1936287598) = 0 then 5 else (if (lg_cmp (fL M 633 31) 470120948857) = 0 then 6 else (if (lg_cmp (fL M 633 31) 2003792494) = 0 then 7 else (if (lg_cmp (fL M 633 31) 2003132786) = 0 then 8 else (if (lg_cmp (fL M 633 31) 7824756) = 0 then 9 else (if (lg_cmp (fL M 633 31) 114784769370228) = 0 then 10 else (if (lg_cmp (fL M 633 31) 1953656676) = 0 then 11 else (-1))))))))))))) else (-1)
theorem g_173 {e : Nat} {M M' : Mem} {v : Option Value} (hS : SQ M) (H : Ev none e 173 0 [some (.ref 633)] [] M v M' 0 0) : v = some (.int (G_173 M)) ∧ M' = M := by
  unfold G_173
  have H : Ev none e 173 1 [some (.ref 633)] [.ref 633] M v M' 0 0 := Ev.back 1 (fun n => rfl) H
  have H : Ev none e 173 4 [some (.ref 633)] [.int (zI M 633 22)] M v M' 0 0 := Ev.back 1 (gs_3 rfl rfl (gf_i hS.1 qa_633 qi_61_22 rfl)) H
  have H : Ev none e 173 (if (zI M 633 22) = 1 then 10 else 8) [some (.ref 633)] [] M v M' 0 0 := Ev.back 2 (fun n => rfl) H
  by_cases h1 : (zI M 633 22) = 1
  · rw [if_pos h1] at H
    have H : Ev none e 173 11 [some (.ref 633)] [.ref 633] M v M' 0 0 := Ev.back 1 (fun n => rfl) H
    have H : Ev none e 173 14 [some (.ref 633)] [.long (fL M 633 31)] M v M' 0 0 := Ev.back 1 (gs_3 rfl rfl (gf_l hS.1 qa_633 ql_61_31 rfl)) H
    have H : Ev none e 173 (if (lg_cmp (fL M 633 31) 444300620659) = 0 then 21 else 23) [some (.ref 633)] [] M v M' 0 0 := Ev.back 3 (fun n => rfl) H
    by_cases h2 : (lg_cmp (fL M 633 31) 444300620659) = 0
    · rw [if_pos h2] at H
      have H : Ev none e 173 22 [some (.ref 633)] [.int 0] M v M' 0 0 := Ev.back 1 (fun n => rfl) H
      obtain ⟨p1, p2⟩ := Ev.retz rfl rfl H
      exact ⟨by rw [if_pos h1, if_pos h2]; exact p1, p2⟩
    · rw [if_neg h2] at H
      have H : Ev none e 173 24 [some (.ref 633)] [.ref 633] M v M' 0 0 := Ev.back 1 (fun n => rfl) H
      have H : Ev none e 173 27 [some (.ref 633)] [.long (fL M 633 31)] M v M' 0 0 := Ev.back 1 (gs_3 rfl rfl (gf_l hS.1 qa_633 ql_61_31 rfl)) H
      have H : Ev none e 173 (if (lg_cmp (fL M 633 31) 113740959081836) = 0 then 34 else 36) [some (.ref 633)] [] M v M' 0 0 := Ev.back 3 (fun n => rfl) H
      by_cases h3 : (lg_cmp (fL M 633 31) 113740959081836) = 0
      · rw [if_pos h3] at H
        have H : Ev none e 173 35 [some (.ref 633)] [.int 1] M v M' 0 0 := Ev.back 1 (fun n => rfl) H
        obtain ⟨p1, p2⟩ := Ev.retz rfl rfl H
        exact ⟨by rw [if_pos h1, if_neg h2, if_pos h3]; exact p1, p2⟩
      · rw [if_neg h3] at H
        have H : Ev none e 173 37 [some (.ref 633)] [.ref 633] M v M' 0 0 := Ev.back 1 (fun n => rfl) H
        have H : Ev none e 173 40 [some (.ref 633)] [.long (fL M 633 31)] M v M' 0 0 := Ev.back 1 (gs_3 rfl rfl (gf_l hS.1 qa_633 ql_61_31 rfl)) H
        have H : Ev none e 173 (if (lg_cmp (fL M 633 31) 6448484) = 0 then 47 else 49) [some (.ref 633)] [] M v M' 0 0 := Ev.back 3 (fun n => rfl) H
        by_cases h4 : (lg_cmp (fL M 633 31) 6448484) = 0
        · rw [if_pos h4] at H
          have H : Ev none e 173 48 [some (.ref 633)] [.int 2] M v M' 0 0 := Ev.back 1 (fun n => rfl) H
          obtain ⟨p1, p2⟩ := Ev.retz rfl rfl H
          exact ⟨by rw [if_pos h1, if_neg h2, if_neg h3, if_pos h4]; exact p1, p2⟩
        · rw [if_neg h4] at H
          have H : Ev none e 173 50 [some (.ref 633)] [.ref 633] M v M' 0 0 := Ev.back 1 (fun n => rfl) H
          have H : Ev none e 173 53 [some (.ref 633)] [.long (fL M 633 31)] M v M' 0 0 := Ev.back 1 (gs_3 rfl rfl (gf_l hS.1 qa_633 ql_61_31 rfl)) H
          have H : Ev none e 173 (if (lg_cmp (fL M 633 31) 482671486308) = 0 then 60 else 62) [some (.ref 633)] [] M v M' 0 0 := Ev.back 3 (fun n => rfl) H
          by_cases h5 : (lg_cmp (fL M 633 31) 482671486308) = 0
          · rw [if_pos h5] at H
            have H : Ev none e 173 61 [some (.ref 633)] [.int 3] M v M' 0 0 := Ev.back 1 (fun n => rfl) H
            obtain ⟨p1, p2⟩ := Ev.retz rfl rfl H
            exact ⟨by rw [if_pos h1, if_neg h2, if_neg h3, if_neg h4, if_pos h5]; exact p1, p2⟩
          · rw [if_neg h5] at H
            have H : Ev none e 173 63 [some (.ref 633)] [.ref 633] M v M' 0 0 := Ev.back 1 (fun n => rfl) H
            have H : Ev none e 173 66 [some (.ref 633)] [.long (fL M 633 31)] M v M' 0 0 := Ev.back 1 (gs_3 rfl rfl (gf_l hS.1 qa_633 ql_61_31 rfl)) H
            have H : Ev none e 173 (if (lg_cmp (fL M 633 31) 495874044019) = 0 then 73 else 75) [some (.ref 633)] [] M v M' 0 0 := Ev.back 3 (fun n => rfl) H
            by_cases h6 : (lg_cmp (fL M 633 31) 495874044019) = 0
            · rw [if_pos h6] at H
              have H : Ev none e 173 74 [some (.ref 633)] [.int 4] M v M' 0 0 := Ev.back 1 (fun n => rfl) H
              obtain ⟨p1, p2⟩ := Ev.retz rfl rfl H
              exact ⟨by rw [if_pos h1, if_neg h2, if_neg h3, if_neg h4, if_neg h5, if_pos h6]; exact p1, p2⟩
            · rw [if_neg h6] at H
              have H : Ev none e 173 76 [some (.ref 633)] [.ref 633] M v M' 0 0 := Ev.back 1 (fun n => rfl) H
              have H : Ev none e 173 79 [some (.ref 633)] [.long (fL M 633 31)] M v M' 0 0 := Ev.back 1 (gs_3 rfl rfl (gf_l hS.1 qa_633 ql_61_31 rfl)) H
              have H : Ev none e 173 (if (lg_cmp (fL M 633 31) 1936287598) = 0 then 86 else 88) [some (.ref 633)] [] M v M' 0 0 := Ev.back 3 (fun n => rfl) H
              by_cases h7 : (lg_cmp (fL M 633 31) 1936287598) = 0
              · rw [if_pos h7] at H
                have H : Ev none e 173 87 [some (.ref 633)] [.int 5] M v M' 0 0 := Ev.back 1 (fun n => rfl) H
                obtain ⟨p1, p2⟩ := Ev.retz rfl rfl H
                exact ⟨by rw [if_pos h1, if_neg h2, if_neg h3, if_neg h4, if_neg h5, if_neg h6, if_pos h7]; exact p1, p2⟩
              · rw [if_neg h7] at H
                have H : Ev none e 173 89 [some (.ref 633)] [.ref 633] M v M' 0 0 := Ev.back 1 (fun n => rfl) H
                have H : Ev none e 173 92 [some (.ref 633)] [.long (fL M 633 31)] M v M' 0 0 := Ev.back 1 (gs_3 rfl rfl (gf_l hS.1 qa_633 ql_61_31 rfl)) H
                have H : Ev none e 173 (if (lg_cmp (fL M 633 31) 470120948857) = 0 then 99 else 102) [some (.ref 633)] [] M v M' 0 0 := Ev.back 3 (fun n => rfl) H
                by_cases h8 : (lg_cmp (fL M 633 31) 470120948857) = 0
                · rw [if_pos h8] at H
                  have H : Ev none e 173 101 [some (.ref 633)] [.int 6] M v M' 0 0 := Ev.back 1 (fun n => rfl) H
                  obtain ⟨p1, p2⟩ := Ev.retz rfl rfl H
                  exact ⟨by rw [if_pos h1, if_neg h2, if_neg h3, if_neg h4, if_neg h5, if_neg h6, if_neg h7, if_pos h8]; exact p1, p2⟩
                · rw [if_neg h8] at H
                  have H : Ev none e 173 103 [some (.ref 633)] [.ref 633] M v M' 0 0 := Ev.back 1 (fun n => rfl) H
                  have H : Ev none e 173 106 [some (.ref 633)] [.long (fL M 633 31)] M v M' 0 0 := Ev.back 1 (gs_3 rfl rfl (gf_l hS.1 qa_633 ql_61_31 rfl)) H
                  have H : Ev none e 173 (if (lg_cmp (fL M 633 31) 2003792494) = 0 then 113 else 116) [some (.ref 633)] [] M v M' 0 0 := Ev.back 3 (fun n => rfl) H
                  by_cases h9 : (lg_cmp (fL M 633 31) 2003792494) = 0
                  · rw [if_pos h9] at H
                    have H : Ev none e 173 115 [some (.ref 633)] [.int 7] M v M' 0 0 := Ev.back 1 (fun n => rfl) H
                    obtain ⟨p1, p2⟩ := Ev.retz rfl rfl H
                    exact ⟨by rw [if_pos h1, if_neg h2, if_neg h3, if_neg h4, if_neg h5, if_neg h6, if_neg h7, if_neg h8, if_pos h9]; exact p1, p2⟩
                  · rw [if_neg h9] at H
                    have H : Ev none e 173 117 [some (.ref 633)] [.ref 633] M v M' 0 0 := Ev.back 1 (fun n => rfl) H
                    have H : Ev none e 173 120 [some (.ref 633)] [.long (fL M 633 31)] M v M' 0 0 := Ev.back 1 (gs_3 rfl rfl (gf_l hS.1 qa_633 ql_61_31 rfl)) H
                    have H : Ev none e 173 (if (lg_cmp (fL M 633 31) 2003132786) = 0 then 127 else 132) [some (.ref 633)] [] M v M' 0 0 := Ev.back 3 (fun n => rfl) H
                    by_cases h10 : (lg_cmp (fL M 633 31) 2003132786) = 0
                    · rw [if_pos h10] at H
                      have H : Ev none e 173 181 [some (.ref 633)] [.int 8] M v M' 0 0 := Ev.back 2 (fun n => rfl) H
                      obtain ⟨p1, p2⟩ := Ev.retz rfl rfl H
                      exact ⟨by rw [if_pos h1, if_neg h2, if_neg h3, if_neg h4, if_neg h5, if_neg h6, if_neg h7, if_neg h8, if_neg h9, if_pos h10]; exact p1, p2⟩
                    · rw [if_neg h10] at H
                      have H : Ev none e 173 133 [some (.ref 633)] [.ref 633] M v M' 0 0 := Ev.back 1 (fun n => rfl) H
                      have H : Ev none e 173 136 [some (.ref 633)] [.long (fL M 633 31)] M v M' 0 0 := Ev.back 1 (gs_3 rfl rfl (gf_l hS.1 qa_633 ql_61_31 rfl)) H
                      have H : Ev none e 173 (if (lg_cmp (fL M 633 31) 7824756) = 0 then 143 else 148) [some (.ref 633)] [] M v M' 0 0 := Ev.back 3 (fun n => rfl) H
                      by_cases h11 : (lg_cmp (fL M 633 31) 7824756) = 0
                      · rw [if_pos h11] at H
                        have H : Ev none e 173 181 [some (.ref 633)] [.int 9] M v M' 0 0 := Ev.back 2 (fun n => rfl) H
                        obtain ⟨p1, p2⟩ := Ev.retz rfl rfl H
                        exact ⟨by rw [if_pos h1, if_neg h2, if_neg h3, if_neg h4, if_neg h5, if_neg h6, if_neg h7, if_neg h8, if_neg h9, if_neg h10, if_pos h11]; exact p1, p2⟩
                      · rw [if_neg h11] at H
                        have H : Ev none e 173 149 [some (.ref 633)] [.ref 633] M v M' 0 0 := Ev.back 1 (fun n => rfl) H
                        have H : Ev none e 173 152 [some (.ref 633)] [.long (fL M 633 31)] M v M' 0 0 := Ev.back 1 (gs_3 rfl rfl (gf_l hS.1 qa_633 ql_61_31 rfl)) H
                        have H : Ev none e 173 (if (lg_cmp (fL M 633 31) 114784769370228) = 0 then 159 else 164) [some (.ref 633)] [] M v M' 0 0 := Ev.back 3 (fun n => rfl) H
                        by_cases h12 : (lg_cmp (fL M 633 31) 114784769370228) = 0
                        · rw [if_pos h12] at H
                          have H : Ev none e 173 181 [some (.ref 633)] [.int 10] M v M' 0 0 := Ev.back 2 (fun n => rfl) H
                          obtain ⟨p1, p2⟩ := Ev.retz rfl rfl H
                          exact ⟨by rw [if_pos h1, if_neg h2, if_neg h3, if_neg h4, if_neg h5, if_neg h6, if_neg h7, if_neg h8, if_neg h9, if_neg h10, if_neg h11, if_pos h12]; exact p1, p2⟩
                        · rw [if_neg h12] at H
                          have H : Ev none e 173 165 [some (.ref 633)] [.ref 633] M v M' 0 0 := Ev.back 1 (fun n => rfl) H
                          have H : Ev none e 173 168 [some (.ref 633)] [.long (fL M 633 31)] M v M' 0 0 := Ev.back 1 (gs_3 rfl rfl (gf_l hS.1 qa_633 ql_61_31 rfl)) H
                          have H : Ev none e 173 (if (lg_cmp (fL M 633 31) 1953656676) = 0 then 175 else 180) [some (.ref 633)] [] M v M' 0 0 := Ev.back 3 (fun n => rfl) H
                          by_cases h13 : (lg_cmp (fL M 633 31) 1953656676) = 0
                          · rw [if_pos h13] at H
                            have H : Ev none e 173 181 [some (.ref 633)] [.int 11] M v M' 0 0 := Ev.back 2 (fun n => rfl) H
                            obtain ⟨p1, p2⟩ := Ev.retz rfl rfl H
                            exact ⟨by rw [if_pos h1, if_neg h2, if_neg h3, if_neg h4, if_neg h5, if_neg h6, if_neg h7, if_neg h8, if_neg h9, if_neg h10, if_neg h11, if_neg h12, if_pos h13]; exact p1, p2⟩
                          · rw [if_neg h13] at H
                            have H : Ev none e 173 181 [some (.ref 633)] [.int (-1)] M v M' 0 0 := Ev.back 1 (fun n => rfl) H
                            obtain ⟨p1, p2⟩ := Ev.retz rfl rfl H
                            exact ⟨by rw [if_pos h1, if_neg h2, if_neg h3, if_neg h4, if_neg h5, if_neg h6, if_neg h7, if_neg h8, if_neg h9, if_neg h10, if_neg h11, if_neg h12, if_neg h13]; exact p1, p2⟩
  · rw [if_neg h1] at H
    have H : Ev none e 173 9 [some (.ref 633)] [.int (-1)] M v M' 0 0 := Ev.back 1 (fun n => rfl) H
    obtain ⟨p1, p2⟩ := Ev.retz rfl rfl H
    exact ⟨by rw [if_neg h1]; exact p1, p2⟩
noncomputable def G_176 (M : Mem) (k : Int32) : Int32 := if k = 20 then 3 else (if k = 21 then 2 else 1)
theorem g_176 {e : Nat} {M M' : Mem} {v : Option Value} {k : Int32} (hS : SQ M) (H : Ev none e 176 0 [some (.int k)] [] M v M' 0 0) : v = some (.int (G_176 M k)) ∧ M' = M := by
  unfold G_176
  have H : Ev none e 176 (if k = 20 then 6 else 10) [some (.int k)] [] M v M' 0 0 := Ev.back 3 (fun n => rfl) H
  by_cases h1 : k = 20
  · rw [if_pos h1] at H
    have H : Ev none e 176 21 [some (.int k)] [.int 3] M v M' 0 0 := Ev.back 2 (fun n => rfl) H
    obtain ⟨p1, p2⟩ := Ev.retz rfl rfl H
    exact ⟨by rw [if_pos h1]; exact p1, p2⟩
  · rw [if_neg h1] at H
    have H : Ev none e 176 (if k = 21 then 16 else 20) [some (.int k)] [] M v M' 0 0 := Ev.back 3 (fun n => rfl) H
    by_cases h2 : k = 21
    · rw [if_pos h2] at H
      have H : Ev none e 176 21 [some (.int k)] [.int 2] M v M' 0 0 := Ev.back 2 (fun n => rfl) H
      obtain ⟨p1, p2⟩ := Ev.retz rfl rfl H
      exact ⟨by rw [if_neg h1, if_pos h2]; exact p1, p2⟩
    · rw [if_neg h2] at H
      have H : Ev none e 176 21 [some (.int k)] [.int 1] M v M' 0 0 := Ev.back 1 (fun n => rfl) H
      obtain ⟨p1, p2⟩ := Ev.retz rfl rfl H
      exact ⟨by rw [if_neg h1, if_neg h2]; exact p1, p2⟩
theorem wt_0 {e : Nat} {M M' : Mem} {v : Option Value} {x y z : Int32} (hS : SQ M) (H : Ev none e 174 0 [some (.ref 633), some (.int x), some (.int y), some (.int z)] [] M v M' 0 0) : (0 ≤ (1400 + (zI M 633 19)).toInt ∧ (1400 + (zI M 633 19)).toInt < 1600) ∧ (0 ≤ (1400 + (zI M 633 19)).toInt ∧ (1400 + (zI M 633 19)).toInt < 1600) ∧ (0 ≤ (1400 + (zI M 633 19)).toInt ∧ (1400 + (zI M 633 19)).toInt < 1600) ∧ v = none ∧ M' = (wF (wI (wI (wI M 645 ((1400 + (zI M 633 19)).toNatClampNeg) x) 646 ((1400 + (zI M 633 19)).toNatClampNeg) y) 647 ((1400 + (zI M 633 19)).toNatClampNeg) z) 633 19 ((zI M 633 19) + 1)) := by
  have H : Ev none e 174 1 [some (.ref 633), some (.int x), some (.int y), some (.int z)] [.ref 633] M v M' 0 0 := Ev.back 1 (fun n => rfl) H
  have H : Ev none e 174 4 [some (.ref 633), some (.int x), some (.int y), some (.int z)] [.ref 645] M v M' 0 0 := Ev.back 1 (gs_3 rfl rfl (gf_u hS.1 qa_633 qr_61_15 qu_73 rfl)) H
  have H : Ev none e 174 8 [some (.ref 633), some (.int x), some (.int y), some (.int z)] [.ref 633, .int 1400, .ref 645] M v M' 0 0 := Ev.back 2 (fun n => rfl) H
  have H : Ev none e 174 11 [some (.ref 633), some (.int x), some (.int y), some (.int z)] [.int (zI M 633 19), .int 1400, .ref 645] M v M' 0 0 := Ev.back 1 (gs_3 rfl rfl (gf_i hS.1 qa_633 qi_61_19 rfl)) H
  have H : Ev none e 174 13 [some (.ref 633), some (.int x), some (.int y), some (.int z)] [.int x, .int (1400 + (zI M 633 19)), .ref 645] M v M' 0 0 := Ev.back 2 (fun n => rfl) H
  obtain ⟨b1, H⟩ := Ev.ias rfl rfl hS.1 qa_645 qw_73 H
  obtain ⟨N2, eN2⟩ : ∃ N, N = (wI M 645 ((1400 + (zI M 633 19)).toNatClampNeg) x) := ⟨_, rfl⟩
  have hN2 : SQ N2 := by rw [eN2]; exact hS.ki
  have H : Ev none e 174 14 [some (.ref 633), some (.int x), some (.int y), some (.int z)] [] N2 v M' 0 0 := by rw [eN2]; exact H
  have H : Ev none e 174 15 [some (.ref 633), some (.int x), some (.int y), some (.int z)] [.ref 633] N2 v M' 0 0 := Ev.back 1 (fun n => rfl) H
  have H : Ev none e 174 18 [some (.ref 633), some (.int x), some (.int y), some (.int z)] [.ref 646] N2 v M' 0 0 := Ev.back 1 (gs_3 rfl rfl (gf_u hN2.1 qa_633 qr_61_16 qu_74 rfl)) H
  have H : Ev none e 174 22 [some (.ref 633), some (.int x), some (.int y), some (.int z)] [.ref 633, .int 1400, .ref 646] N2 v M' 0 0 := Ev.back 2 (fun n => rfl) H
  have H : Ev none e 174 25 [some (.ref 633), some (.int x), some (.int y), some (.int z)] [.int (zI N2 633 19), .int 1400, .ref 646] N2 v M' 0 0 := Ev.back 1 (gs_3 rfl rfl (gf_i hN2.1 qa_633 qi_61_19 rfl)) H
  rw [show zI N2 633 19 = zI M 633 19 from by rw [eN2]; exact fI_wI] at H
  have H : Ev none e 174 27 [some (.ref 633), some (.int x), some (.int y), some (.int z)] [.int y, .int (1400 + (zI M 633 19)), .ref 646] N2 v M' 0 0 := Ev.back 2 (fun n => rfl) H
  obtain ⟨b3, H⟩ := Ev.ias rfl rfl hN2.1 qa_646 qw_74 H
  obtain ⟨N4, eN4⟩ : ∃ N, N = (wI N2 646 ((1400 + (zI M 633 19)).toNatClampNeg) y) := ⟨_, rfl⟩
  have hN4 : SQ N4 := by rw [eN4]; exact hN2.ki
  have H : Ev none e 174 28 [some (.ref 633), some (.int x), some (.int y), some (.int z)] [] N4 v M' 0 0 := by rw [eN4]; exact H
  have H : Ev none e 174 29 [some (.ref 633), some (.int x), some (.int y), some (.int z)] [.ref 633] N4 v M' 0 0 := Ev.back 1 (fun n => rfl) H
  have H : Ev none e 174 32 [some (.ref 633), some (.int x), some (.int y), some (.int z)] [.ref 647] N4 v M' 0 0 := Ev.back 1 (gs_3 rfl rfl (gf_u hN4.1 qa_633 qr_61_17 qu_75 rfl)) H
  have H : Ev none e 174 36 [some (.ref 633), some (.int x), some (.int y), some (.int z)] [.ref 633, .int 1400, .ref 647] N4 v M' 0 0 := Ev.back 2 (fun n => rfl) H
  have H : Ev none e 174 39 [some (.ref 633), some (.int x), some (.int y), some (.int z)] [.int (zI N4 633 19), .int 1400, .ref 647] N4 v M' 0 0 := Ev.back 1 (gs_3 rfl rfl (gf_i hN4.1 qa_633 qi_61_19 rfl)) H
  rw [(show zI N4 633 19 = zI N2 633 19 from by rw [eN4]; exact fI_wI).trans (show zI N2 633 19 = zI M 633 19 from by rw [eN2]; exact fI_wI)] at H
  have H : Ev none e 174 41 [some (.ref 633), some (.int x), some (.int y), some (.int z)] [.int z, .int (1400 + (zI M 633 19)), .ref 647] N4 v M' 0 0 := Ev.back 2 (fun n => rfl) H
  obtain ⟨b5, H⟩ := Ev.ias rfl rfl hN4.1 qa_647 qw_75 H
  obtain ⟨N6, eN6⟩ : ∃ N, N = (wI N4 647 ((1400 + (zI M 633 19)).toNatClampNeg) z) := ⟨_, rfl⟩
  have hN6 : SQ N6 := by rw [eN6]; exact hN4.ki
  have H : Ev none e 174 42 [some (.ref 633), some (.int x), some (.int y), some (.int z)] [] N6 v M' 0 0 := by rw [eN6]; exact H
  have H : Ev none e 174 44 [some (.ref 633), some (.int x), some (.int y), some (.int z)] [.ref 633, .ref 633] N6 v M' 0 0 := Ev.back 2 (fun n => rfl) H
  have H : Ev none e 174 47 [some (.ref 633), some (.int x), some (.int y), some (.int z)] [.int (zI N6 633 19), .ref 633] N6 v M' 0 0 := Ev.back 1 (gs_3 rfl rfl (gf_i hN6.1 qa_633 qi_61_19 rfl)) H
  rw [((show zI N6 633 19 = zI N4 633 19 from by rw [eN6]; exact fI_wI).trans (show zI N4 633 19 = zI N2 633 19 from by rw [eN4]; exact fI_wI)).trans (show zI N2 633 19 = zI M 633 19 from by rw [eN2]; exact fI_wI)] at H
  have H : Ev none e 174 49 [some (.ref 633), some (.int x), some (.int y), some (.int z)] [.int ((zI M 633 19) + 1), .ref 633] N6 v M' 0 0 := Ev.back 2 (fun n => rfl) H
  obtain ⟨N8, eN8⟩ : ∃ N, N = (wF N6 633 19 ((zI M 633 19) + 1)) := ⟨_, rfl⟩
  have hN8 : SQ N8 := by rw [eN8]; exact hN6.kf
  have H : Ev none e 174 52 [some (.ref 633), some (.int x), some (.int y), some (.int z)] [] N8 v M' 0 0 := by rw [eN8]; exact Ev.pfi rfl rfl rfl hN6.1 qa_633 qi_61_19 H
  obtain ⟨z1, z2⟩ := Ev.retb (fun n => rfl) H
  subst eN2 eN4 eN6 eN8
  exact ⟨b1, b3, b5, z1, z2⟩
theorem wdq_0 {e : Nat} {M M' : Mem} {v : Option Value} {le : Int32} (hS : SQ M) (H : Ev none e 175 0 [some (.ref 633), some (.int le)] [] M v M' 0 0) : ((zI M 633 20) ≤ 0 ∧ v = none ∧ M' = M) ∨ (¬ ((zI M 633 20) ≤ 0) ∧ (rI M 648 ((zI M 633 20) - 1)) = 23 ∧ v = none ∧ M' = M) ∨ (¬ ((zI M 633 20) ≤ 0) ∧ ¬ ((rI M 648 ((zI M 633 20) - 1)) = 23) ∧ (G_176 M (rI M 648 ((zI M 633 20) - 1))) < le ∧ v = none ∧ M' = M) ∨ (¬ ((zI M 633 20) ≤ 0) ∧ ¬ ((rI M 648 ((zI M 633 20) - 1)) = 23) ∧ ¬ ((G_176 M (rI M 648 ((zI M 633 20) - 1))) < le) ∧ (∃ e1 v1 M1, e = e1 + 1 ∧ Ev none e1 174 0 [some (.ref 633), some (.int (rI M 648 ((zI M 633 20) - 1))), some (.int 0), some (.int 0)] [] (wF M 633 20 ((zI M 633 20) - 1)) v1 M1 0 0 ∧ Ev none e 175 66 [some (.ref 633), some (.int le)] (v1.toList ++ []) M1 v M' 0 0)) := by
  have H : Ev none e 175 1 [some (.ref 633), some (.int le)] [.ref 633] M v M' 0 0 := Ev.back 1 (fun n => rfl) H
  have H : Ev none e 175 4 [some (.ref 633), some (.int le)] [.int (zI M 633 20)] M v M' 0 0 := Ev.back 1 (gs_3 rfl rfl (gf_i hS.1 qa_633 qi_61_20 rfl)) H
  have H : Ev none e 175 (if (zI M 633 20) ≤ 0 then 69 else 7) [some (.ref 633), some (.int le)] [] M v M' 0 0 := Ev.back 1 (fun n => rfl) H
  by_cases h1 : (zI M 633 20) ≤ 0
  · rw [if_pos h1] at H
    obtain ⟨z1, z2⟩ := Ev.retb (fun n => rfl) H
    exact Or.inl ⟨h1, z1, z2⟩
  · rw [if_neg h1] at H
    have H : Ev none e 175 8 [some (.ref 633), some (.int le)] [.ref 633] M v M' 0 0 := Ev.back 1 (fun n => rfl) H
    have H : Ev none e 175 11 [some (.ref 633), some (.int le)] [.ref 648] M v M' 0 0 := Ev.back 1 (gs_3 rfl rfl (gf_u hS.1 qa_633 qr_61_18 qu_76 rfl)) H
    have H : Ev none e 175 12 [some (.ref 633), some (.int le)] [.ref 633, .ref 648] M v M' 0 0 := Ev.back 1 (fun n => rfl) H
    have H : Ev none e 175 15 [some (.ref 633), some (.int le)] [.int (zI M 633 20), .ref 648] M v M' 0 0 := Ev.back 1 (gs_3 rfl rfl (gf_i hS.1 qa_633 qi_61_20 rfl)) H
    have H : Ev none e 175 17 [some (.ref 633), some (.int le)] [.int ((zI M 633 20) - 1), .ref 648] M v M' 0 0 := Ev.back 2 (fun n => rfl) H
    obtain ⟨b2, H⟩ := Ev.ial rfl rfl hS.1 qa_648 qw_76 H
    have H : Ev none e 175 18 [some (.ref 633), some (.int le)] [.int (rI M 648 ((zI M 633 20) - 1))] M v M' 0 0 := H
    have H : Ev none e 175 (if (rI M 648 ((zI M 633 20) - 1)) = 23 then 69 else 23) [some (.ref 633), some (.int le)] [] M v M' 0 0 := Ev.back 2 (fun n => rfl) H
    by_cases h3 : (rI M 648 ((zI M 633 20) - 1)) = 23
    · rw [if_pos h3] at H
      obtain ⟨z1, z2⟩ := Ev.retb (fun n => rfl) H
      exact Or.inr (Or.inl ⟨h1, h3, z1, z2⟩)
    · rw [if_neg h3] at H
      have H : Ev none e 175 24 [some (.ref 633), some (.int le)] [.ref 633] M v M' 0 0 := Ev.back 1 (fun n => rfl) H
      have H : Ev none e 175 27 [some (.ref 633), some (.int le)] [.ref 648] M v M' 0 0 := Ev.back 1 (gs_3 rfl rfl (gf_u hS.1 qa_633 qr_61_18 qu_76 rfl)) H
      have H : Ev none e 175 28 [some (.ref 633), some (.int le)] [.ref 633, .ref 648] M v M' 0 0 := Ev.back 1 (fun n => rfl) H
      have H : Ev none e 175 31 [some (.ref 633), some (.int le)] [.int (zI M 633 20), .ref 648] M v M' 0 0 := Ev.back 1 (gs_3 rfl rfl (gf_i hS.1 qa_633 qi_61_20 rfl)) H
      have H : Ev none e 175 33 [some (.ref 633), some (.int le)] [.int ((zI M 633 20) - 1), .ref 648] M v M' 0 0 := Ev.back 2 (fun n => rfl) H
      obtain ⟨b4, H⟩ := Ev.ial rfl rfl hS.1 qa_648 qw_76 H
      have H : Ev none e 175 34 [some (.ref 633), some (.int le)] [.int (rI M 648 ((zI M 633 20) - 1))] M v M' 0 0 := H
      obtain ⟨e1, rfl⟩ := Ev.dpos rfl rfl H
      obtain ⟨vK5, MK5, K5, H⟩ := Ev.callb (fun n => rfl) H
      obtain ⟨pK5, qK5⟩ := g_176 hS K5
      rw [pK5, qK5] at H
      have H : Ev none (e1 + 1) 175 37 [some (.ref 633), some (.int le)] [.int (G_176 M (rI M 648 ((zI M 633 20) - 1)))] M v M' 0 0 := H
      have H : Ev none (e1 + 1) 175 (if (G_176 M (rI M 648 ((zI M 633 20) - 1))) < le then 69 else 41) [some (.ref 633), some (.int le)] [] M v M' 0 0 := Ev.back 2 (fun n => rfl) H
      by_cases h6 : (G_176 M (rI M 648 ((zI M 633 20) - 1))) < le
      · rw [if_pos h6] at H
        obtain ⟨z1, z2⟩ := Ev.retb (fun n => rfl) H
        exact Or.inr (Or.inr (Or.inl ⟨h1, h3, h6, z1, z2⟩))
      · rw [if_neg h6] at H
        have H : Ev none (e1 + 1) 175 43 [some (.ref 633), some (.int le)] [.ref 633, .ref 633] M v M' 0 0 := Ev.back 2 (fun n => rfl) H
        have H : Ev none (e1 + 1) 175 46 [some (.ref 633), some (.int le)] [.int (zI M 633 20), .ref 633] M v M' 0 0 := Ev.back 1 (gs_3 rfl rfl (gf_i hS.1 qa_633 qi_61_20 rfl)) H
        have H : Ev none (e1 + 1) 175 48 [some (.ref 633), some (.int le)] [.int ((zI M 633 20) - 1), .ref 633] M v M' 0 0 := Ev.back 2 (fun n => rfl) H
        obtain ⟨N8, eN8⟩ : ∃ N, N = (wF M 633 20 ((zI M 633 20) - 1)) := ⟨_, rfl⟩
        have hN8 : SQ N8 := by rw [eN8]; exact hS.kf
        have H : Ev none (e1 + 1) 175 51 [some (.ref 633), some (.int le)] [] N8 v M' 0 0 := by rw [eN8]; exact Ev.pfi rfl rfl rfl hS.1 qa_633 qi_61_20 H
        have H : Ev none (e1 + 1) 175 53 [some (.ref 633), some (.int le)] [.ref 633, .ref 633] N8 v M' 0 0 := Ev.back 2 (fun n => rfl) H
        have H : Ev none (e1 + 1) 175 56 [some (.ref 633), some (.int le)] [.ref 648, .ref 633] N8 v M' 0 0 := Ev.back 1 (gs_3 rfl rfl (gf_u hN8.1 qa_633 qr_61_18 qu_76 rfl)) H
        have H : Ev none (e1 + 1) 175 57 [some (.ref 633), some (.int le)] [.ref 633, .ref 648, .ref 633] N8 v M' 0 0 := Ev.back 1 (fun n => rfl) H
        have H : Ev none (e1 + 1) 175 60 [some (.ref 633), some (.int le)] [.int (zI N8 633 20), .ref 648, .ref 633] N8 v M' 0 0 := Ev.back 1 (gs_3 rfl rfl (gf_i hN8.1 qa_633 qi_61_20 rfl)) H
        rw [show zI N8 633 20 = (zI M 633 20) - 1 from by rw [eN8]; exact fI_wF_eq hS.1 qa_633 qi_61_20] at H
        obtain ⟨b9, H⟩ := Ev.ial rfl rfl hN8.1 qa_648 qw_76 H
        have H : Ev none (e1 + 1) 175 61 [some (.ref 633), some (.int le)] [.int (rI N8 648 ((zI M 633 20) - 1)), .ref 633] N8 v M' 0 0 := H
        rw [show rI N8 648 ((zI M 633 20) - 1) = rI M 648 ((zI M 633 20) - 1) from by rw [eN8]; exact rN_wF] at H
        have H : Ev none (e1 + 1) 175 63 [some (.ref 633), some (.int le)] [.int 0, .int 0, .int (rI M 648 ((zI M 633 20) - 1)), .ref 633] N8 v M' 0 0 := Ev.back 2 (fun n => rfl) H
        obtain ⟨vK10, MK10, K10, H⟩ := Ev.callb (fun n => gs_7 rfl rfl (show gCal (.invokevirtual 294) 11 (.int 0 :: .int 0 :: .int (rI M 648 ((zI M 633 20) - 1)) :: .ref 633 :: []) N8 = some (.inr (174, [some (.ref 633), some (.int (rI M 648 ((zI M 633 20) - 1))), some (.int 0), some (.int 0)], [])) from by show @cond (Option ((List Value × Mem) ⊕ (Nat × Lo × List Value))) (true && gRecv N8 (.ref 633) 11 && gRoom [] && true) (some (.inr (174, [some (.ref 633), some (.int (rI M 648 ((zI M 633 20) - 1))), some (.int 0), some (.int 0)], []))) none = _; rw [recv_s hN8.1 qa_633 qo_61]; rfl)) H
        have K10 : Ev none e1 174 0 [some (.ref 633), some (.int (rI M 648 ((zI M 633 20) - 1))), some (.int 0), some (.int 0)] [] N8 vK10 MK10 0 0 := K10
        have HF := H
        subst eN8
        exact Or.inr (Or.inr (Or.inr (⟨h1, h3, h6, ⟨e1, vK10, MK10, rfl, K10, HF⟩⟩)))
theorem wdq_66 {e : Nat} {M M' : Mem} {v : Option Value} {le : Int32} (hS : SQ M) (H : Ev none e 175 66 [some (.ref 633), some (.int le)] [] M v M' 0 0) : Ev none e 175 0 [some (.ref 633), some (.int le)] [] M v M' 0 0 := by
  have H : Ev none e 175 0 [some (.ref 633), some (.int le)] [] M v M' 0 0 := Ev.back 1 (fun n => rfl) H
  have HF := H
  exact HF
theorem op_0 {e : Nat} {M M' : Mem} {v : Option Value} (hS : SQ M) (H : Ev none e 177 0 [some (.ref 633), none, none] [] M v M' 0 0) : Ev none e 177 4 [some (.ref 633), some (.int 0), some (.int 0)] [] M v M' 0 0 := by
  have H : Ev none e 177 4 [some (.ref 633), some (.int 0), some (.int 0)] [] M v M' 0 0 := Ev.back 4 (fun n => rfl) H
  have HF := H
  exact HF
theorem op_4 {e : Nat} {M M' : Mem} {v : Option Value} {nn k : Int32} (hS : SQ M) (H : Ev none e 177 4 [some (.ref 633), some (.int nn), some (.int k)] [] M v M' 0 0) : ((zI M 633 20) ≤ k ∧ v = some (.int nn) ∧ M' = M) ∨ (¬ ((zI M 633 20) ≤ k) ∧ (rI M 648 k) = 20 ∧ Ev none e 177 4 [some (.ref 633), some (.int (nn + 1)), some (.int (k + 1))] [] M v M' 0 0) ∨ (¬ ((zI M 633 20) ≤ k) ∧ ¬ ((rI M 648 k) = 20) ∧ (rI M 648 k) = 23 ∧ Ev none e 177 4 [some (.ref 633), some (.int (nn + 1)), some (.int (k + 1))] [] M v M' 0 0) ∨ (¬ ((zI M 633 20) ≤ k) ∧ ¬ ((rI M 648 k) = 20) ∧ ¬ ((rI M 648 k) = 23) ∧ Ev none e 177 4 [some (.ref 633), some (.int (nn + 0)), some (.int (k + 1))] [] M v M' 0 0) := by
  have H : Ev none e 177 6 [some (.ref 633), some (.int nn), some (.int k)] [.ref 633, .int k] M v M' 0 0 := Ev.back 2 (fun n => rfl) H
  have H : Ev none e 177 9 [some (.ref 633), some (.int nn), some (.int k)] [.int (zI M 633 20), .int k] M v M' 0 0 := Ev.back 1 (gs_3 rfl rfl (gf_i hS.1 qa_633 qi_61_20 rfl)) H
  have H : Ev none e 177 (if (zI M 633 20) ≤ k then 48 else 12) [some (.ref 633), some (.int nn), some (.int k)] [] M v M' 0 0 := Ev.back 1 (fun n => rfl) H
  by_cases h1 : (zI M 633 20) ≤ k
  · rw [if_pos h1] at H
    have H : Ev none e 177 49 [some (.ref 633), some (.int nn), some (.int k)] [.int nn] M v M' 0 0 := Ev.back 1 (fun n => rfl) H
    obtain ⟨z1, z2⟩ := Ev.retz rfl rfl H
    exact Or.inl ⟨h1, z1, z2⟩
  · rw [if_neg h1] at H
    have H : Ev none e 177 14 [some (.ref 633), some (.int nn), some (.int k)] [.ref 633, .int nn] M v M' 0 0 := Ev.back 2 (fun n => rfl) H
    have H : Ev none e 177 17 [some (.ref 633), some (.int nn), some (.int k)] [.ref 648, .int nn] M v M' 0 0 := Ev.back 1 (gs_3 rfl rfl (gf_u hS.1 qa_633 qr_61_18 qu_76 rfl)) H
    have H : Ev none e 177 18 [some (.ref 633), some (.int nn), some (.int k)] [.int k, .ref 648, .int nn] M v M' 0 0 := Ev.back 1 (fun n => rfl) H
    obtain ⟨b2, H⟩ := Ev.ial rfl rfl hS.1 qa_648 qw_76 H
    have H : Ev none e 177 19 [some (.ref 633), some (.int nn), some (.int k)] [.int (rI M 648 k), .int nn] M v M' 0 0 := H
    have H : Ev none e 177 (if (rI M 648 k) = 20 then 35 else 24) [some (.ref 633), some (.int nn), some (.int k)] [.int nn] M v M' 0 0 := Ev.back 2 (fun n => rfl) H
    by_cases h3 : (rI M 648 k) = 20
    · rw [if_pos h3] at H
      have H : Ev none e 177 4 [some (.ref 633), some (.int (nn + 1)), some (.int (k + 1))] [] M v M' 0 0 := Ev.back 6 (fun n => rfl) H
      have HF := H
      exact Or.inr (Or.inl ⟨h1, h3, HF⟩)
    · rw [if_neg h3] at H
      have H : Ev none e 177 25 [some (.ref 633), some (.int nn), some (.int k)] [.ref 633, .int nn] M v M' 0 0 := Ev.back 1 (fun n => rfl) H
      have H : Ev none e 177 28 [some (.ref 633), some (.int nn), some (.int k)] [.ref 648, .int nn] M v M' 0 0 := Ev.back 1 (gs_3 rfl rfl (gf_u hS.1 qa_633 qr_61_18 qu_76 rfl)) H
      have H : Ev none e 177 29 [some (.ref 633), some (.int nn), some (.int k)] [.int k, .ref 648, .int nn] M v M' 0 0 := Ev.back 1 (fun n => rfl) H
      obtain ⟨b4, H⟩ := Ev.ial rfl rfl hS.1 qa_648 qw_76 H
      have H : Ev none e 177 30 [some (.ref 633), some (.int nn), some (.int k)] [.int (rI M 648 k), .int nn] M v M' 0 0 := H
      have H : Ev none e 177 (if (rI M 648 k) = 23 then 35 else 39) [some (.ref 633), some (.int nn), some (.int k)] [.int nn] M v M' 0 0 := Ev.back 2 (fun n => rfl) H
      by_cases h5 : (rI M 648 k) = 23
      · rw [if_pos h5] at H
        have H : Ev none e 177 4 [some (.ref 633), some (.int (nn + 1)), some (.int (k + 1))] [] M v M' 0 0 := Ev.back 6 (fun n => rfl) H
        have HF := H
        exact Or.inr (Or.inr (Or.inl ⟨h1, h3, h5, HF⟩))
      · rw [if_neg h5] at H
        have H : Ev none e 177 4 [some (.ref 633), some (.int (nn + 0)), some (.int (k + 1))] [] M v M' 0 0 := Ev.back 5 (fun n => rfl) H
        have HF := H
        exact Or.inr (Or.inr (Or.inr (⟨h1, h3, h5, HF⟩)))
theorem ioq_0 {e : Nat} {M M' : Mem} {v : Option Value} (hS : SQ M) (H : Ev none e 178 0 [some (.ref 633), none] [] M v M' 0 0) : Ev none e 178 2 [some (.ref 633), some (.int 0)] [] M v M' 0 0 := by
  have H : Ev none e 178 2 [some (.ref 633), some (.int 0)] [] M v M' 0 0 := Ev.back 2 (fun n => rfl) H
  have HF := H
  exact HF
theorem ioq_2 {e : Nat} {M M' : Mem} {v : Option Value} {k : Int32} (hS : SQ M) (H : Ev none e 178 2 [some (.ref 633), some (.int k)] [] M v M' 0 0) : ((zI M 633 20) ≤ k ∧ v = some (.int 0) ∧ M' = M) ∨ (¬ ((zI M 633 20) ≤ k) ∧ (rI M 648 k) = 23 ∧ v = some (.int 1) ∧ M' = M) ∨ (¬ ((zI M 633 20) ≤ k) ∧ ¬ ((rI M 648 k) = 23) ∧ Ev none e 178 2 [some (.ref 633), some (.int (k + 1))] [] M v M' 0 0) := by
  have H : Ev none e 178 4 [some (.ref 633), some (.int k)] [.ref 633, .int k] M v M' 0 0 := Ev.back 2 (fun n => rfl) H
  have H : Ev none e 178 7 [some (.ref 633), some (.int k)] [.int (zI M 633 20), .int k] M v M' 0 0 := Ev.back 1 (gs_3 rfl rfl (gf_i hS.1 qa_633 qi_61_20 rfl)) H
  have H : Ev none e 178 (if (zI M 633 20) ≤ k then 29 else 10) [some (.ref 633), some (.int k)] [] M v M' 0 0 := Ev.back 1 (fun n => rfl) H
  by_cases h1 : (zI M 633 20) ≤ k
  · rw [if_pos h1] at H
    have H : Ev none e 178 30 [some (.ref 633), some (.int k)] [.int 0] M v M' 0 0 := Ev.back 1 (fun n => rfl) H
    obtain ⟨z1, z2⟩ := Ev.retz rfl rfl H
    exact Or.inl ⟨h1, z1, z2⟩
  · rw [if_neg h1] at H
    have H : Ev none e 178 11 [some (.ref 633), some (.int k)] [.ref 633] M v M' 0 0 := Ev.back 1 (fun n => rfl) H
    have H : Ev none e 178 14 [some (.ref 633), some (.int k)] [.ref 648] M v M' 0 0 := Ev.back 1 (gs_3 rfl rfl (gf_u hS.1 qa_633 qr_61_18 qu_76 rfl)) H
    have H : Ev none e 178 15 [some (.ref 633), some (.int k)] [.int k, .ref 648] M v M' 0 0 := Ev.back 1 (fun n => rfl) H
    obtain ⟨b2, H⟩ := Ev.ial rfl rfl hS.1 qa_648 qw_76 H
    have H : Ev none e 178 16 [some (.ref 633), some (.int k)] [.int (rI M 648 k)] M v M' 0 0 := H
    have H : Ev none e 178 (if (rI M 648 k) = 23 then 21 else 23) [some (.ref 633), some (.int k)] [] M v M' 0 0 := Ev.back 2 (fun n => rfl) H
    by_cases h3 : (rI M 648 k) = 23
    · rw [if_pos h3] at H
      have H : Ev none e 178 22 [some (.ref 633), some (.int k)] [.int 1] M v M' 0 0 := Ev.back 1 (fun n => rfl) H
      obtain ⟨z1, z2⟩ := Ev.retz rfl rfl H
      exact Or.inr (Or.inl ⟨h1, h3, z1, z2⟩)
    · rw [if_neg h3] at H
      have H : Ev none e 178 2 [some (.ref 633), some (.int (k + 1))] [] M v M' 0 0 := Ev.back 2 (fun n => rfl) H
      have HF := H
      exact Or.inr (Or.inr (⟨h1, h3, HF⟩))
theorem oe_0 {e : Nat} {M M' : Mem} {v : Option Value} {c1 c2 c3 : Option Value} (hS : SQ M) (H : Ev none e 180 0 [some (.ref 633), c1, c2, c3] [] M v M' 0 0) : ((G_164 M 7237492) = 0 ∧ 0 ≤ (G_173 M) ∧ (zI M 633 21) = 40 ∧ (∃ e1 v1 M1, e = e1 + 1 ∧ Ev none e1 163 0 [some (.ref 633), some (.int 4)] [] M v1 M1 0 0 ∧ Ev none e 180 59 [some (.ref 633), some (.int (G_164 M 7237492)), some (.int (G_173 M)), c3] (v1.toList ++ []) M1 v M' 0 0)) ∨ ((G_164 M 7237492) = 0 ∧ 0 ≤ (G_173 M) ∧ ¬ ((zI M 633 21) = 40) ∧ (∃ e1 v1 M1, e = e1 + 1 ∧ Ev none e1 177 0 [some (.ref 633), none, none] [] M v1 M1 0 0 ∧ Ev none e 180 49 [some (.ref 633), some (.int (G_164 M 7237492)), some (.int (G_173 M)), c3] (v1.toList ++ []) M1 v M' 0 0)) ∨ ((G_164 M 7237492) = 0 ∧ ¬ (0 ≤ (G_173 M)) ∧ (G_165 M 40) = 0 ∧ (∃ e1 v1 M1, e = e1 + 1 ∧ Ev none e1 163 0 [some (.ref 633), some (.int 1)] [] M v1 M1 0 0 ∧ Ev none e 180 35 [some (.ref 633), some (.int (G_164 M 7237492)), some (.int (G_173 M)), c3] (v1.toList ++ []) M1 v M' 0 0)) ∨ ((G_164 M 7237492) = 0 ∧ ¬ (0 ≤ (G_173 M)) ∧ ¬ ((G_165 M 40) = 0) ∧ (zI M 633 21) = 40 ∧ (∃ e1 v1 M1, e = e1 + 1 ∧ Ev none e1 163 0 [some (.ref 633), some (.int 4)] [] M v1 M1 0 0 ∧ Ev none e 180 59 [some (.ref 633), some (.int (G_164 M 7237492)), some (.int (G_173 M)), c3] (v1.toList ++ []) M1 v M' 0 0)) ∨ ((G_164 M 7237492) = 0 ∧ ¬ (0 ≤ (G_173 M)) ∧ ¬ ((G_165 M 40) = 0) ∧ ¬ ((zI M 633 21) = 40) ∧ (∃ e1 v1 M1, e = e1 + 1 ∧ Ev none e1 177 0 [some (.ref 633), none, none] [] M v1 M1 0 0 ∧ Ev none e 180 49 [some (.ref 633), some (.int (G_164 M 7237492)), some (.int (G_173 M)), c3] (v1.toList ++ []) M1 v M' 0 0)) ∨ (¬ ((G_164 M 7237492) = 0) ∧ (zI M 633 21) = 40 ∧ (∃ e1 v1 M1, e = e1 + 1 ∧ Ev none e1 163 0 [some (.ref 633), some (.int 4)] [] M v1 M1 0 0 ∧ Ev none e 180 59 [some (.ref 633), some (.int (G_164 M 7237492)), some (.int (G_173 M)), c3] (v1.toList ++ []) M1 v M' 0 0)) ∨ (¬ ((G_164 M 7237492) = 0) ∧ ¬ ((zI M 633 21) = 40) ∧ (∃ e1 v1 M1, e = e1 + 1 ∧ Ev none e1 177 0 [some (.ref 633), none, none] [] M v1 M1 0 0 ∧ Ev none e 180 49 [some (.ref 633), some (.int (G_164 M 7237492)), some (.int (G_173 M)), c3] (v1.toList ++ []) M1 v M' 0 0)) := by
  have H : Ev none e 180 4 [some (.ref 633), c1, c2, c3] [.long 7237492, .ref 633] M v M' 0 0 := Ev.back 2 (fun n => rfl) H
  obtain ⟨e1, rfl⟩ := Ev.dpos rfl rfl H
  obtain ⟨vK1, MK1, K1, H⟩ := Ev.callb (fun n => gs_7 rfl rfl (show gCal (.invokevirtual 248) 11 (.long 7237492 :: .ref 633 :: []) M = some (.inr (164, [some (.ref 633), some (.long 7237492), none], [])) from by show @cond (Option ((List Value × Mem) ⊕ (Nat × Lo × List Value))) (true && gRecv M (.ref 633) 11 && gRoom [] && true) (some (.inr (164, [some (.ref 633), some (.long 7237492), none], []))) none = _; rw [recv_s hS.1 qa_633 qo_61]; rfl)) H
  obtain ⟨pK1, qK1⟩ := g_164 hS K1
  rw [pK1, qK1] at H
  have H : Ev none (e1 + 1) 180 7 [some (.ref 633), c1, c2, c3] [.int (G_164 M 7237492)] M v M' 0 0 := H
  have H : Ev none (e1 + 1) 180 9 [some (.ref 633), some (.int (G_164 M 7237492)), c2, c3] [.ref 633] M v M' 0 0 := Ev.back 2 (fun n => rfl) H
  obtain ⟨vK2, MK2, K2, H⟩ := Ev.callb (fun n => gs_7 rfl rfl (show gCal (.invokevirtual 312) 11 (.ref 633 :: []) M = some (.inr (173, [some (.ref 633)], [])) from by show @cond (Option ((List Value × Mem) ⊕ (Nat × Lo × List Value))) (true && gRecv M (.ref 633) 11 && gRoom [] && true) (some (.inr (173, [some (.ref 633)], []))) none = _; rw [recv_s hS.1 qa_633 qo_61]; rfl)) H
  obtain ⟨pK2, qK2⟩ := g_173 hS K2
  rw [pK2, qK2] at H
  have H : Ev none (e1 + 1) 180 12 [some (.ref 633), some (.int (G_164 M 7237492)), c2, c3] [.int (G_173 M)] M v M' 0 0 := H
  have H : Ev none (e1 + 1) 180 (if (G_164 M 7237492) = 0 then 17 else 36) [some (.ref 633), some (.int (G_164 M 7237492)), some (.int (G_173 M)), c3] [] M v M' 0 0 := Ev.back 3 (fun n => rfl) H
  by_cases h3 : (G_164 M 7237492) = 0
  · rw [if_pos h3] at H
    have H : Ev none (e1 + 1) 180 (if 0 ≤ (G_173 M) then 36 else 21) [some (.ref 633), some (.int (G_164 M 7237492)), some (.int (G_173 M)), c3] [] M v M' 0 0 := Ev.back 2 (fun n => rfl) H
    by_cases h4 : 0 ≤ (G_173 M)
    · rw [if_pos h4] at H
      have H : Ev none (e1 + 1) 180 37 [some (.ref 633), some (.int (G_164 M 7237492)), some (.int (G_173 M)), c3] [.ref 633] M v M' 0 0 := Ev.back 1 (fun n => rfl) H
      have H : Ev none (e1 + 1) 180 40 [some (.ref 633), some (.int (G_164 M 7237492)), some (.int (G_173 M)), c3] [.int (zI M 633 21)] M v M' 0 0 := Ev.back 1 (gs_3 rfl rfl (gf_i hS.1 qa_633 qi_61_21 rfl)) H
      have H : Ev none (e1 + 1) 180 (if (zI M 633 21) = 40 then 54 else 45) [some (.ref 633), some (.int (G_164 M 7237492)), some (.int (G_173 M)), c3] [] M v M' 0 0 := Ev.back 2 (fun n => rfl) H
      by_cases h5 : (zI M 633 21) = 40
      · rw [if_pos h5] at H
        have H : Ev none (e1 + 1) 180 56 [some (.ref 633), some (.int (G_164 M 7237492)), some (.int (G_173 M)), c3] [.int 4, .ref 633] M v M' 0 0 := Ev.back 2 (fun n => rfl) H
        obtain ⟨vK6, MK6, K6, H⟩ := Ev.callb (fun n => gs_7 rfl rfl (show gCal (.invokevirtual 198) 11 (.int 4 :: .ref 633 :: []) M = some (.inr (163, [some (.ref 633), some (.int 4)], [])) from by show @cond (Option ((List Value × Mem) ⊕ (Nat × Lo × List Value))) (true && gRecv M (.ref 633) 11 && gRoom [] && true) (some (.inr (163, [some (.ref 633), some (.int 4)], []))) none = _; rw [recv_s hS.1 qa_633 qo_61]; rfl)) H
        have K6 : Ev none e1 163 0 [some (.ref 633), some (.int 4)] [] M vK6 MK6 0 0 := K6
        have HF := H
        exact Or.inl ⟨h3, h4, h5, ⟨e1, vK6, MK6, rfl, K6, HF⟩⟩
      · rw [if_neg h5] at H
        have H : Ev none (e1 + 1) 180 46 [some (.ref 633), some (.int (G_164 M 7237492)), some (.int (G_173 M)), c3] [.ref 633] M v M' 0 0 := Ev.back 1 (fun n => rfl) H
        obtain ⟨vK7, MK7, K7, H⟩ := Ev.callb (fun n => gs_7 rfl rfl (show gCal (.invokevirtual 318) 11 (.ref 633 :: []) M = some (.inr (177, [some (.ref 633), none, none], [])) from by show @cond (Option ((List Value × Mem) ⊕ (Nat × Lo × List Value))) (true && gRecv M (.ref 633) 11 && gRoom [] && true) (some (.inr (177, [some (.ref 633), none, none], []))) none = _; rw [recv_s hS.1 qa_633 qo_61]; rfl)) H
        have K7 : Ev none e1 177 0 [some (.ref 633), none, none] [] M vK7 MK7 0 0 := K7
        have HF := H
        exact Or.inr (Or.inl ⟨h3, h4, h5, ⟨e1, vK7, MK7, rfl, K7, HF⟩⟩)
    · rw [if_neg h4] at H
      have H : Ev none (e1 + 1) 180 24 [some (.ref 633), some (.int (G_164 M 7237492)), some (.int (G_173 M)), c3] [.int 40, .ref 633] M v M' 0 0 := Ev.back 2 (fun n => rfl) H
      obtain ⟨vK8, MK8, K8, H⟩ := Ev.callb (fun n => gs_7 rfl rfl (show gCal (.invokevirtual 195) 11 (.int 40 :: .ref 633 :: []) M = some (.inr (165, [some (.ref 633), some (.int 40)], [])) from by show @cond (Option ((List Value × Mem) ⊕ (Nat × Lo × List Value))) (true && gRecv M (.ref 633) 11 && gRoom [] && true) (some (.inr (165, [some (.ref 633), some (.int 40)], []))) none = _; rw [recv_s hS.1 qa_633 qo_61]; rfl)) H
      obtain ⟨pK8, qK8⟩ := g_165 hS K8
      rw [pK8, qK8] at H
      have H : Ev none (e1 + 1) 180 27 [some (.ref 633), some (.int (G_164 M 7237492)), some (.int (G_173 M)), c3] [.int (G_165 M 40)] M v M' 0 0 := H
      have H : Ev none (e1 + 1) 180 (if (G_165 M 40) = 0 then 30 else 36) [some (.ref 633), some (.int (G_164 M 7237492)), some (.int (G_173 M)), c3] [] M v M' 0 0 := Ev.back 1 (fun n => rfl) H
      by_cases h9 : (G_165 M 40) = 0
      · rw [if_pos h9] at H
        have H : Ev none (e1 + 1) 180 32 [some (.ref 633), some (.int (G_164 M 7237492)), some (.int (G_173 M)), c3] [.int 1, .ref 633] M v M' 0 0 := Ev.back 2 (fun n => rfl) H
        obtain ⟨vK10, MK10, K10, H⟩ := Ev.callb (fun n => gs_7 rfl rfl (show gCal (.invokevirtual 198) 11 (.int 1 :: .ref 633 :: []) M = some (.inr (163, [some (.ref 633), some (.int 1)], [])) from by show @cond (Option ((List Value × Mem) ⊕ (Nat × Lo × List Value))) (true && gRecv M (.ref 633) 11 && gRoom [] && true) (some (.inr (163, [some (.ref 633), some (.int 1)], []))) none = _; rw [recv_s hS.1 qa_633 qo_61]; rfl)) H
        have K10 : Ev none e1 163 0 [some (.ref 633), some (.int 1)] [] M vK10 MK10 0 0 := K10
        have HF := H
        exact Or.inr (Or.inr (Or.inl ⟨h3, h4, h9, ⟨e1, vK10, MK10, rfl, K10, HF⟩⟩))
      · rw [if_neg h9] at H
        have H : Ev none (e1 + 1) 180 37 [some (.ref 633), some (.int (G_164 M 7237492)), some (.int (G_173 M)), c3] [.ref 633] M v M' 0 0 := Ev.back 1 (fun n => rfl) H
        have H : Ev none (e1 + 1) 180 40 [some (.ref 633), some (.int (G_164 M 7237492)), some (.int (G_173 M)), c3] [.int (zI M 633 21)] M v M' 0 0 := Ev.back 1 (gs_3 rfl rfl (gf_i hS.1 qa_633 qi_61_21 rfl)) H
        have H : Ev none (e1 + 1) 180 (if (zI M 633 21) = 40 then 54 else 45) [some (.ref 633), some (.int (G_164 M 7237492)), some (.int (G_173 M)), c3] [] M v M' 0 0 := Ev.back 2 (fun n => rfl) H
        by_cases h11 : (zI M 633 21) = 40
        · rw [if_pos h11] at H
          have H : Ev none (e1 + 1) 180 56 [some (.ref 633), some (.int (G_164 M 7237492)), some (.int (G_173 M)), c3] [.int 4, .ref 633] M v M' 0 0 := Ev.back 2 (fun n => rfl) H
          obtain ⟨vK12, MK12, K12, H⟩ := Ev.callb (fun n => gs_7 rfl rfl (show gCal (.invokevirtual 198) 11 (.int 4 :: .ref 633 :: []) M = some (.inr (163, [some (.ref 633), some (.int 4)], [])) from by show @cond (Option ((List Value × Mem) ⊕ (Nat × Lo × List Value))) (true && gRecv M (.ref 633) 11 && gRoom [] && true) (some (.inr (163, [some (.ref 633), some (.int 4)], []))) none = _; rw [recv_s hS.1 qa_633 qo_61]; rfl)) H
          have K12 : Ev none e1 163 0 [some (.ref 633), some (.int 4)] [] M vK12 MK12 0 0 := K12
          have HF := H
          exact Or.inr (Or.inr (Or.inr (Or.inl ⟨h3, h4, h9, h11, ⟨e1, vK12, MK12, rfl, K12, HF⟩⟩)))
        · rw [if_neg h11] at H
          have H : Ev none (e1 + 1) 180 46 [some (.ref 633), some (.int (G_164 M 7237492)), some (.int (G_173 M)), c3] [.ref 633] M v M' 0 0 := Ev.back 1 (fun n => rfl) H
          obtain ⟨vK13, MK13, K13, H⟩ := Ev.callb (fun n => gs_7 rfl rfl (show gCal (.invokevirtual 318) 11 (.ref 633 :: []) M = some (.inr (177, [some (.ref 633), none, none], [])) from by show @cond (Option ((List Value × Mem) ⊕ (Nat × Lo × List Value))) (true && gRecv M (.ref 633) 11 && gRoom [] && true) (some (.inr (177, [some (.ref 633), none, none], []))) none = _; rw [recv_s hS.1 qa_633 qo_61]; rfl)) H
          have K13 : Ev none e1 177 0 [some (.ref 633), none, none] [] M vK13 MK13 0 0 := K13
          have HF := H
          exact Or.inr (Or.inr (Or.inr (Or.inr (Or.inl ⟨h3, h4, h9, h11, ⟨e1, vK13, MK13, rfl, K13, HF⟩⟩))))
  · rw [if_neg h3] at H
    have H : Ev none (e1 + 1) 180 37 [some (.ref 633), some (.int (G_164 M 7237492)), some (.int (G_173 M)), c3] [.ref 633] M v M' 0 0 := Ev.back 1 (fun n => rfl) H
    have H : Ev none (e1 + 1) 180 40 [some (.ref 633), some (.int (G_164 M 7237492)), some (.int (G_173 M)), c3] [.int (zI M 633 21)] M v M' 0 0 := Ev.back 1 (gs_3 rfl rfl (gf_i hS.1 qa_633 qi_61_21 rfl)) H
    have H : Ev none (e1 + 1) 180 (if (zI M 633 21) = 40 then 54 else 45) [some (.ref 633), some (.int (G_164 M 7237492)), some (.int (G_173 M)), c3] [] M v M' 0 0 := Ev.back 2 (fun n => rfl) H
    by_cases h14 : (zI M 633 21) = 40
    · rw [if_pos h14] at H
      have H : Ev none (e1 + 1) 180 56 [some (.ref 633), some (.int (G_164 M 7237492)), some (.int (G_173 M)), c3] [.int 4, .ref 633] M v M' 0 0 := Ev.back 2 (fun n => rfl) H
      obtain ⟨vK15, MK15, K15, H⟩ := Ev.callb (fun n => gs_7 rfl rfl (show gCal (.invokevirtual 198) 11 (.int 4 :: .ref 633 :: []) M = some (.inr (163, [some (.ref 633), some (.int 4)], [])) from by show @cond (Option ((List Value × Mem) ⊕ (Nat × Lo × List Value))) (true && gRecv M (.ref 633) 11 && gRoom [] && true) (some (.inr (163, [some (.ref 633), some (.int 4)], []))) none = _; rw [recv_s hS.1 qa_633 qo_61]; rfl)) H
      have K15 : Ev none e1 163 0 [some (.ref 633), some (.int 4)] [] M vK15 MK15 0 0 := K15
      have HF := H
      exact Or.inr (Or.inr (Or.inr (Or.inr (Or.inr (Or.inl ⟨h3, h14, ⟨e1, vK15, MK15, rfl, K15, HF⟩⟩)))))
    · rw [if_neg h14] at H
      have H : Ev none (e1 + 1) 180 46 [some (.ref 633), some (.int (G_164 M 7237492)), some (.int (G_173 M)), c3] [.ref 633] M v M' 0 0 := Ev.back 1 (fun n => rfl) H
      obtain ⟨vK16, MK16, K16, H⟩ := Ev.callb (fun n => gs_7 rfl rfl (show gCal (.invokevirtual 318) 11 (.ref 633 :: []) M = some (.inr (177, [some (.ref 633), none, none], [])) from by show @cond (Option ((List Value × Mem) ⊕ (Nat × Lo × List Value))) (true && gRecv M (.ref 633) 11 && gRoom [] && true) (some (.inr (177, [some (.ref 633), none, none], []))) none = _; rw [recv_s hS.1 qa_633 qo_61]; rfl)) H
      have K16 : Ev none e1 177 0 [some (.ref 633), none, none] [] M vK16 MK16 0 0 := K16
      have HF := H
      exact Or.inr (Or.inr (Or.inr (Or.inr (Or.inr (Or.inr (⟨h3, h14, ⟨e1, vK16, MK16, rfl, K16, HF⟩⟩))))))
theorem oe_35 {e : Nat} {M M' : Mem} {v : Option Value} {nt a y : Int32} {c3 : Option Value} (hS : SQ M) (H : Ev none e 180 35 [some (.ref 633), some (.int nt), some (.int a), c3] [.int y] M v M' 0 0) : v = some (.int y) ∧ M' = M := by
  obtain ⟨z1, z2⟩ := Ev.retz rfl rfl H
  exact ⟨z1, z2⟩
theorem oe_49 {e : Nat} {M M' : Mem} {v : Option Value} {nt a y : Int32} {c3 : Option Value} (hS : SQ M) (H : Ev none e 180 49 [some (.ref 633), some (.int nt), some (.int a), c3] [.int y] M v M' 0 0) : (y = 10 ∧ (∃ e1 v1 M1, e = e1 + 1 ∧ Ev none e1 163 0 [some (.ref 633), some (.int 4)] [] M v1 M1 0 0 ∧ Ev none e 180 59 [some (.ref 633), some (.int nt), some (.int a), c3] (v1.toList ++ []) M1 v M' 0 0)) ∨ (¬ (y = 10) ∧ (∃ e1 v1 M1, e = e1 + 1 ∧ Ev none e1 162 0 [some (.ref 633), none, none, none] [] (wF M 633 21 ((zI M 633 21) + 1)) v1 M1 0 0 ∧ Ev none e 180 74 [some (.ref 633), some (.int nt), some (.int a), c3] (v1.toList ++ []) M1 v M' 0 0)) := by
  have H : Ev none e 180 (if y = 10 then 54 else 60) [some (.ref 633), some (.int nt), some (.int a), c3] [] M v M' 0 0 := Ev.back 2 (fun n => rfl) H
  by_cases h1 : y = 10
  · rw [if_pos h1] at H
    have H : Ev none e 180 56 [some (.ref 633), some (.int nt), some (.int a), c3] [.int 4, .ref 633] M v M' 0 0 := Ev.back 2 (fun n => rfl) H
    obtain ⟨e1, rfl⟩ := Ev.dpos rfl rfl H
    obtain ⟨vK2, MK2, K2, H⟩ := Ev.callb (fun n => gs_7 rfl rfl (show gCal (.invokevirtual 198) 11 (.int 4 :: .ref 633 :: []) M = some (.inr (163, [some (.ref 633), some (.int 4)], [])) from by show @cond (Option ((List Value × Mem) ⊕ (Nat × Lo × List Value))) (true && gRecv M (.ref 633) 11 && gRoom [] && true) (some (.inr (163, [some (.ref 633), some (.int 4)], []))) none = _; rw [recv_s hS.1 qa_633 qo_61]; rfl)) H
    have K2 : Ev none e1 163 0 [some (.ref 633), some (.int 4)] [] M vK2 MK2 0 0 := K2
    have HF := H
    exact Or.inl ⟨h1, ⟨e1, vK2, MK2, rfl, K2, HF⟩⟩
  · rw [if_neg h1] at H
    have H : Ev none e 180 62 [some (.ref 633), some (.int nt), some (.int a), c3] [.ref 633, .ref 633] M v M' 0 0 := Ev.back 2 (fun n => rfl) H
    have H : Ev none e 180 65 [some (.ref 633), some (.int nt), some (.int a), c3] [.int (zI M 633 21), .ref 633] M v M' 0 0 := Ev.back 1 (gs_3 rfl rfl (gf_i hS.1 qa_633 qi_61_21 rfl)) H
    have H : Ev none e 180 67 [some (.ref 633), some (.int nt), some (.int a), c3] [.int ((zI M 633 21) + 1), .ref 633] M v M' 0 0 := Ev.back 2 (fun n => rfl) H
    obtain ⟨N4, eN4⟩ : ∃ N, N = (wF M 633 21 ((zI M 633 21) + 1)) := ⟨_, rfl⟩
    have hN4 : SQ N4 := by rw [eN4]; exact hS.kf
    have H : Ev none e 180 70 [some (.ref 633), some (.int nt), some (.int a), c3] [] N4 v M' 0 0 := by rw [eN4]; exact Ev.pfi rfl rfl rfl hS.1 qa_633 qi_61_21 H
    have H : Ev none e 180 71 [some (.ref 633), some (.int nt), some (.int a), c3] [.ref 633] N4 v M' 0 0 := Ev.back 1 (fun n => rfl) H
    obtain ⟨e1, rfl⟩ := Ev.dpos rfl rfl H
    obtain ⟨vK5, MK5, K5, H⟩ := Ev.callb (fun n => gs_7 rfl rfl (show gCal (.invokevirtual 201) 11 (.ref 633 :: []) N4 = some (.inr (162, [some (.ref 633), none, none, none], [])) from by show @cond (Option ((List Value × Mem) ⊕ (Nat × Lo × List Value))) (true && gRecv N4 (.ref 633) 11 && gRoom [] && true) (some (.inr (162, [some (.ref 633), none, none, none], []))) none = _; rw [recv_s hN4.1 qa_633 qo_61]; rfl)) H
    have K5 : Ev none e1 162 0 [some (.ref 633), none, none, none] [] N4 vK5 MK5 0 0 := K5
    have HF := H
    subst eN4
    exact Or.inr (⟨h1, ⟨e1, vK5, MK5, rfl, K5, HF⟩⟩)
theorem oe_59 {e : Nat} {M M' : Mem} {v : Option Value} {nt a y : Int32} {c3 : Option Value} (hS : SQ M) (H : Ev none e 180 59 [some (.ref 633), some (.int nt), some (.int a), c3] [.int y] M v M' 0 0) : v = some (.int y) ∧ M' = M := by
  obtain ⟨z1, z2⟩ := Ev.retz rfl rfl H
  exact ⟨z1, z2⟩
theorem oe_74 {e : Nat} {M M' : Mem} {v : Option Value} {nt a : Int32} {c3 : Option Value} (hS : SQ M) (H : Ev none e 180 74 [some (.ref 633), some (.int nt), some (.int a), c3] [] M v M' 0 0) : (0 ≤ a ∧ 8 ≤ a ∧ (G_165 M 60) = 0 ∧ (G_165 M 61) = 0 ∧ (G_165 M 62) = 0 ∧ (∃ e1 v1 M1, e = e1 + 1 ∧ Ev none e1 163 0 [some (.ref 633), some (.int 1)] [] M v1 M1 0 0 ∧ Ev none e 180 159 [some (.ref 633), some (.int nt), some (.int a), c3] (v1.toList ++ []) M1 v M' 0 0)) ∨ (0 ≤ a ∧ 8 ≤ a ∧ (G_165 M 60) = 0 ∧ (G_165 M 61) = 0 ∧ ¬ ((G_165 M 62) = 0) ∧ (∃ e1 v1 M1, e = e1 + 1 ∧ Ev none e1 162 0 [some (.ref 633), none, none, none] [] M v1 M1 0 0 ∧ Ev none e 180 169 [some (.ref 633), some (.int nt), some (.int a), some (.int (zI M 633 25))] (v1.toList ++ []) M1 v M' 0 0)) ∨ (0 ≤ a ∧ 8 ≤ a ∧ (G_165 M 60) = 0 ∧ ¬ ((G_165 M 61) = 0) ∧ (∃ e1 v1 M1, e = e1 + 1 ∧ Ev none e1 162 0 [some (.ref 633), none, none, none] [] M v1 M1 0 0 ∧ Ev none e 180 169 [some (.ref 633), some (.int nt), some (.int a), some (.int (zI M 633 25))] (v1.toList ++ []) M1 v M' 0 0)) ∨ (0 ≤ a ∧ 8 ≤ a ∧ ¬ ((G_165 M 60) = 0) ∧ (∃ e1 v1 M1, e = e1 + 1 ∧ Ev none e1 162 0 [some (.ref 633), none, none, none] [] M v1 M1 0 0 ∧ Ev none e 180 169 [some (.ref 633), some (.int nt), some (.int a), some (.int (zI M 633 25))] (v1.toList ++ []) M1 v M' 0 0)) ∨ (0 ≤ a ∧ ¬ (8 ≤ a) ∧ (∃ e1 v1 M1, e = e1 + 1 ∧ Ev none e1 174 0 [some (.ref 633), some (.int a), some (.int 0), some (.int 0)] [] M v1 M1 0 0 ∧ Ev none e 180 124 [some (.ref 633), some (.int nt), some (.int a), c3] (v1.toList ++ []) M1 v M' 0 0)) ∨ (¬ (0 ≤ a) ∧ nt = 0 ∧ (0 ≤ (zI M 633 20).toInt ∧ (zI M 633 20).toInt < 100) ∧ Ev none e 180 0 [some (.ref 633), some (.int nt), some (.int a), c3] [] (wF (wI M 648 ((zI M 633 20).toNatClampNeg) 23) 633 20 ((zI M 633 20) + 1)) v M' 0 0) ∨ (¬ (0 ≤ a) ∧ ¬ (nt = 0) ∧ (0 ≤ (zI M 633 20).toInt ∧ (zI M 633 20).toInt < 100) ∧ Ev none e 180 0 [some (.ref 633), some (.int nt), some (.int a), c3] [] (wF (wI M 648 ((zI M 633 20).toNatClampNeg) 20) 633 20 ((zI M 633 20) + 1)) v M' 0 0) := by
  have H : Ev none e 180 (if 0 ≤ a then 111 else 78) [some (.ref 633), some (.int nt), some (.int a), c3] [] M v M' 0 0 := Ev.back 2 (fun n => rfl) H
  by_cases h1 : 0 ≤ a
  · rw [if_pos h1] at H
    have H : Ev none e 180 (if 8 ≤ a then 127 else 117) [some (.ref 633), some (.int nt), some (.int a), c3] [] M v M' 0 0 := Ev.back 3 (fun n => rfl) H
    by_cases h2 : 8 ≤ a
    · rw [if_pos h2] at H
      have H : Ev none e 180 130 [some (.ref 633), some (.int nt), some (.int a), c3] [.int 60, .ref 633] M v M' 0 0 := Ev.back 2 (fun n => rfl) H
      obtain ⟨e1, rfl⟩ := Ev.dpos rfl rfl H
      obtain ⟨vK3, MK3, K3, H⟩ := Ev.callb (fun n => gs_7 rfl rfl (show gCal (.invokevirtual 195) 11 (.int 60 :: .ref 633 :: []) M = some (.inr (165, [some (.ref 633), some (.int 60)], [])) from by show @cond (Option ((List Value × Mem) ⊕ (Nat × Lo × List Value))) (true && gRecv M (.ref 633) 11 && gRoom [] && true) (some (.inr (165, [some (.ref 633), some (.int 60)], []))) none = _; rw [recv_s hS.1 qa_633 qo_61]; rfl)) H
      obtain ⟨pK3, qK3⟩ := g_165 hS K3
      rw [pK3, qK3] at H
      have H : Ev none (e1 + 1) 180 133 [some (.ref 633), some (.int nt), some (.int a), c3] [.int (G_165 M 60)] M v M' 0 0 := H
      have H : Ev none (e1 + 1) 180 (if (G_165 M 60) = 0 then 136 else 160) [some (.ref 633), some (.int nt), some (.int a), c3] [] M v M' 0 0 := Ev.back 1 (fun n => rfl) H
      by_cases h4 : (G_165 M 60) = 0
      · rw [if_pos h4] at H
        have H : Ev none (e1 + 1) 180 139 [some (.ref 633), some (.int nt), some (.int a), c3] [.int 61, .ref 633] M v M' 0 0 := Ev.back 2 (fun n => rfl) H
        obtain ⟨vK5, MK5, K5, H⟩ := Ev.callb (fun n => gs_7 rfl rfl (show gCal (.invokevirtual 195) 11 (.int 61 :: .ref 633 :: []) M = some (.inr (165, [some (.ref 633), some (.int 61)], [])) from by show @cond (Option ((List Value × Mem) ⊕ (Nat × Lo × List Value))) (true && gRecv M (.ref 633) 11 && gRoom [] && true) (some (.inr (165, [some (.ref 633), some (.int 61)], []))) none = _; rw [recv_s hS.1 qa_633 qo_61]; rfl)) H
        obtain ⟨pK5, qK5⟩ := g_165 hS K5
        rw [pK5, qK5] at H
        have H : Ev none (e1 + 1) 180 142 [some (.ref 633), some (.int nt), some (.int a), c3] [.int (G_165 M 61)] M v M' 0 0 := H
        have H : Ev none (e1 + 1) 180 (if (G_165 M 61) = 0 then 145 else 160) [some (.ref 633), some (.int nt), some (.int a), c3] [] M v M' 0 0 := Ev.back 1 (fun n => rfl) H
        by_cases h6 : (G_165 M 61) = 0
        · rw [if_pos h6] at H
          have H : Ev none (e1 + 1) 180 148 [some (.ref 633), some (.int nt), some (.int a), c3] [.int 62, .ref 633] M v M' 0 0 := Ev.back 2 (fun n => rfl) H
          obtain ⟨vK7, MK7, K7, H⟩ := Ev.callb (fun n => gs_7 rfl rfl (show gCal (.invokevirtual 195) 11 (.int 62 :: .ref 633 :: []) M = some (.inr (165, [some (.ref 633), some (.int 62)], [])) from by show @cond (Option ((List Value × Mem) ⊕ (Nat × Lo × List Value))) (true && gRecv M (.ref 633) 11 && gRoom [] && true) (some (.inr (165, [some (.ref 633), some (.int 62)], []))) none = _; rw [recv_s hS.1 qa_633 qo_61]; rfl)) H
          obtain ⟨pK7, qK7⟩ := g_165 hS K7
          rw [pK7, qK7] at H
          have H : Ev none (e1 + 1) 180 151 [some (.ref 633), some (.int nt), some (.int a), c3] [.int (G_165 M 62)] M v M' 0 0 := H
          have H : Ev none (e1 + 1) 180 (if (G_165 M 62) = 0 then 154 else 160) [some (.ref 633), some (.int nt), some (.int a), c3] [] M v M' 0 0 := Ev.back 1 (fun n => rfl) H
          by_cases h8 : (G_165 M 62) = 0
          · rw [if_pos h8] at H
            have H : Ev none (e1 + 1) 180 156 [some (.ref 633), some (.int nt), some (.int a), c3] [.int 1, .ref 633] M v M' 0 0 := Ev.back 2 (fun n => rfl) H
            obtain ⟨vK9, MK9, K9, H⟩ := Ev.callb (fun n => gs_7 rfl rfl (show gCal (.invokevirtual 198) 11 (.int 1 :: .ref 633 :: []) M = some (.inr (163, [some (.ref 633), some (.int 1)], [])) from by show @cond (Option ((List Value × Mem) ⊕ (Nat × Lo × List Value))) (true && gRecv M (.ref 633) 11 && gRoom [] && true) (some (.inr (163, [some (.ref 633), some (.int 1)], []))) none = _; rw [recv_s hS.1 qa_633 qo_61]; rfl)) H
            have K9 : Ev none e1 163 0 [some (.ref 633), some (.int 1)] [] M vK9 MK9 0 0 := K9
            have HF := H
            exact Or.inl ⟨h1, h2, h4, h6, h8, ⟨e1, vK9, MK9, rfl, K9, HF⟩⟩
          · rw [if_neg h8] at H
            have H : Ev none (e1 + 1) 180 161 [some (.ref 633), some (.int nt), some (.int a), c3] [.ref 633] M v M' 0 0 := Ev.back 1 (fun n => rfl) H
            have H : Ev none (e1 + 1) 180 164 [some (.ref 633), some (.int nt), some (.int a), c3] [.int (zI M 633 25)] M v M' 0 0 := Ev.back 1 (gs_3 rfl rfl (gf_i hS.1 qa_633 qi_61_25 rfl)) H
            have H : Ev none (e1 + 1) 180 166 [some (.ref 633), some (.int nt), some (.int a), some (.int (zI M 633 25))] [.ref 633] M v M' 0 0 := Ev.back 2 (fun n => rfl) H
            obtain ⟨vK10, MK10, K10, H⟩ := Ev.callb (fun n => gs_7 rfl rfl (show gCal (.invokevirtual 201) 11 (.ref 633 :: []) M = some (.inr (162, [some (.ref 633), none, none, none], [])) from by show @cond (Option ((List Value × Mem) ⊕ (Nat × Lo × List Value))) (true && gRecv M (.ref 633) 11 && gRoom [] && true) (some (.inr (162, [some (.ref 633), none, none, none], []))) none = _; rw [recv_s hS.1 qa_633 qo_61]; rfl)) H
            have K10 : Ev none e1 162 0 [some (.ref 633), none, none, none] [] M vK10 MK10 0 0 := K10
            have HF := H
            exact Or.inr (Or.inl ⟨h1, h2, h4, h6, h8, ⟨e1, vK10, MK10, rfl, K10, HF⟩⟩)
        · rw [if_neg h6] at H
          have H : Ev none (e1 + 1) 180 161 [some (.ref 633), some (.int nt), some (.int a), c3] [.ref 633] M v M' 0 0 := Ev.back 1 (fun n => rfl) H
          have H : Ev none (e1 + 1) 180 164 [some (.ref 633), some (.int nt), some (.int a), c3] [.int (zI M 633 25)] M v M' 0 0 := Ev.back 1 (gs_3 rfl rfl (gf_i hS.1 qa_633 qi_61_25 rfl)) H
          have H : Ev none (e1 + 1) 180 166 [some (.ref 633), some (.int nt), some (.int a), some (.int (zI M 633 25))] [.ref 633] M v M' 0 0 := Ev.back 2 (fun n => rfl) H
          obtain ⟨vK11, MK11, K11, H⟩ := Ev.callb (fun n => gs_7 rfl rfl (show gCal (.invokevirtual 201) 11 (.ref 633 :: []) M = some (.inr (162, [some (.ref 633), none, none, none], [])) from by show @cond (Option ((List Value × Mem) ⊕ (Nat × Lo × List Value))) (true && gRecv M (.ref 633) 11 && gRoom [] && true) (some (.inr (162, [some (.ref 633), none, none, none], []))) none = _; rw [recv_s hS.1 qa_633 qo_61]; rfl)) H
          have K11 : Ev none e1 162 0 [some (.ref 633), none, none, none] [] M vK11 MK11 0 0 := K11
          have HF := H
          exact Or.inr (Or.inr (Or.inl ⟨h1, h2, h4, h6, ⟨e1, vK11, MK11, rfl, K11, HF⟩⟩))
      · rw [if_neg h4] at H
        have H : Ev none (e1 + 1) 180 161 [some (.ref 633), some (.int nt), some (.int a), c3] [.ref 633] M v M' 0 0 := Ev.back 1 (fun n => rfl) H
        have H : Ev none (e1 + 1) 180 164 [some (.ref 633), some (.int nt), some (.int a), c3] [.int (zI M 633 25)] M v M' 0 0 := Ev.back 1 (gs_3 rfl rfl (gf_i hS.1 qa_633 qi_61_25 rfl)) H
        have H : Ev none (e1 + 1) 180 166 [some (.ref 633), some (.int nt), some (.int a), some (.int (zI M 633 25))] [.ref 633] M v M' 0 0 := Ev.back 2 (fun n => rfl) H
        obtain ⟨vK12, MK12, K12, H⟩ := Ev.callb (fun n => gs_7 rfl rfl (show gCal (.invokevirtual 201) 11 (.ref 633 :: []) M = some (.inr (162, [some (.ref 633), none, none, none], [])) from by show @cond (Option ((List Value × Mem) ⊕ (Nat × Lo × List Value))) (true && gRecv M (.ref 633) 11 && gRoom [] && true) (some (.inr (162, [some (.ref 633), none, none, none], []))) none = _; rw [recv_s hS.1 qa_633 qo_61]; rfl)) H
        have K12 : Ev none e1 162 0 [some (.ref 633), none, none, none] [] M vK12 MK12 0 0 := K12
        have HF := H
        exact Or.inr (Or.inr (Or.inr (Or.inl ⟨h1, h2, h4, ⟨e1, vK12, MK12, rfl, K12, HF⟩⟩)))
    · rw [if_neg h2] at H
      have H : Ev none e 180 121 [some (.ref 633), some (.int nt), some (.int a), c3] [.int 0, .int 0, .int a, .ref 633] M v M' 0 0 := Ev.back 4 (fun n => rfl) H
      obtain ⟨e1, rfl⟩ := Ev.dpos rfl rfl H
      obtain ⟨vK13, MK13, K13, H⟩ := Ev.callb (fun n => gs_7 rfl rfl (show gCal (.invokevirtual 294) 11 (.int 0 :: .int 0 :: .int a :: .ref 633 :: []) M = some (.inr (174, [some (.ref 633), some (.int a), some (.int 0), some (.int 0)], [])) from by show @cond (Option ((List Value × Mem) ⊕ (Nat × Lo × List Value))) (true && gRecv M (.ref 633) 11 && gRoom [] && true) (some (.inr (174, [some (.ref 633), some (.int a), some (.int 0), some (.int 0)], []))) none = _; rw [recv_s hS.1 qa_633 qo_61]; rfl)) H
      have K13 : Ev none e1 174 0 [some (.ref 633), some (.int a), some (.int 0), some (.int 0)] [] M vK13 MK13 0 0 := K13
      have HF := H
      exact Or.inr (Or.inr (Or.inr (Or.inr (Or.inl ⟨h1, h2, ⟨e1, vK13, MK13, rfl, K13, HF⟩⟩))))
  · rw [if_neg h1] at H
    have H : Ev none e 180 79 [some (.ref 633), some (.int nt), some (.int a), c3] [.ref 633] M v M' 0 0 := Ev.back 1 (fun n => rfl) H
    have H : Ev none e 180 82 [some (.ref 633), some (.int nt), some (.int a), c3] [.ref 648] M v M' 0 0 := Ev.back 1 (gs_3 rfl rfl (gf_u hS.1 qa_633 qr_61_18 qu_76 rfl)) H
    have H : Ev none e 180 83 [some (.ref 633), some (.int nt), some (.int a), c3] [.ref 633, .ref 648] M v M' 0 0 := Ev.back 1 (fun n => rfl) H
    have H : Ev none e 180 86 [some (.ref 633), some (.int nt), some (.int a), c3] [.int (zI M 633 20), .ref 648] M v M' 0 0 := Ev.back 1 (gs_3 rfl rfl (gf_i hS.1 qa_633 qi_61_20 rfl)) H
    have H : Ev none e 180 (if nt = 0 then 95 else 90) [some (.ref 633), some (.int nt), some (.int a), c3] [.int (zI M 633 20), .ref 648] M v M' 0 0 := Ev.back 2 (fun n => rfl) H
    by_cases h14 : nt = 0
    · rw [if_pos h14] at H
      have H : Ev none e 180 97 [some (.ref 633), some (.int nt), some (.int a), c3] [.int 23, .int (zI M 633 20), .ref 648] M v M' 0 0 := Ev.back 1 (fun n => rfl) H
      obtain ⟨b15, H⟩ := Ev.ias rfl rfl hS.1 qa_648 qw_76 H
      obtain ⟨N16, eN16⟩ : ∃ N, N = (wI M 648 ((zI M 633 20).toNatClampNeg) 23) := ⟨_, rfl⟩
      have hN16 : SQ N16 := by rw [eN16]; exact hS.ki
      have H : Ev none e 180 98 [some (.ref 633), some (.int nt), some (.int a), c3] [] N16 v M' 0 0 := by rw [eN16]; exact H
      have H : Ev none e 180 100 [some (.ref 633), some (.int nt), some (.int a), c3] [.ref 633, .ref 633] N16 v M' 0 0 := Ev.back 2 (fun n => rfl) H
      have H : Ev none e 180 103 [some (.ref 633), some (.int nt), some (.int a), c3] [.int (zI N16 633 20), .ref 633] N16 v M' 0 0 := Ev.back 1 (gs_3 rfl rfl (gf_i hN16.1 qa_633 qi_61_20 rfl)) H
      rw [show zI N16 633 20 = zI M 633 20 from by rw [eN16]; exact fI_wI] at H
      have H : Ev none e 180 105 [some (.ref 633), some (.int nt), some (.int a), c3] [.int ((zI M 633 20) + 1), .ref 633] N16 v M' 0 0 := Ev.back 2 (fun n => rfl) H
      obtain ⟨N18, eN18⟩ : ∃ N, N = (wF N16 633 20 ((zI M 633 20) + 1)) := ⟨_, rfl⟩
      have hN18 : SQ N18 := by rw [eN18]; exact hN16.kf
      have H : Ev none e 180 108 [some (.ref 633), some (.int nt), some (.int a), c3] [] N18 v M' 0 0 := by rw [eN18]; exact Ev.pfi rfl rfl rfl hN16.1 qa_633 qi_61_20 H
      have H : Ev none e 180 0 [some (.ref 633), some (.int nt), some (.int a), c3] [] N18 v M' 0 0 := Ev.back 1 (fun n => rfl) H
      have HF := H
      subst eN16 eN18
      exact Or.inr (Or.inr (Or.inr (Or.inr (Or.inr (Or.inl ⟨h1, h14, b15, HF⟩)))))
    · rw [if_neg h14] at H
      have H : Ev none e 180 97 [some (.ref 633), some (.int nt), some (.int a), c3] [.int 20, .int (zI M 633 20), .ref 648] M v M' 0 0 := Ev.back 2 (fun n => rfl) H
      obtain ⟨b19, H⟩ := Ev.ias rfl rfl hS.1 qa_648 qw_76 H
      obtain ⟨N20, eN20⟩ : ∃ N, N = (wI M 648 ((zI M 633 20).toNatClampNeg) 20) := ⟨_, rfl⟩
      have hN20 : SQ N20 := by rw [eN20]; exact hS.ki
      have H : Ev none e 180 98 [some (.ref 633), some (.int nt), some (.int a), c3] [] N20 v M' 0 0 := by rw [eN20]; exact H
      have H : Ev none e 180 100 [some (.ref 633), some (.int nt), some (.int a), c3] [.ref 633, .ref 633] N20 v M' 0 0 := Ev.back 2 (fun n => rfl) H
      have H : Ev none e 180 103 [some (.ref 633), some (.int nt), some (.int a), c3] [.int (zI N20 633 20), .ref 633] N20 v M' 0 0 := Ev.back 1 (gs_3 rfl rfl (gf_i hN20.1 qa_633 qi_61_20 rfl)) H
      rw [show zI N20 633 20 = zI M 633 20 from by rw [eN20]; exact fI_wI] at H
      have H : Ev none e 180 105 [some (.ref 633), some (.int nt), some (.int a), c3] [.int ((zI M 633 20) + 1), .ref 633] N20 v M' 0 0 := Ev.back 2 (fun n => rfl) H
      obtain ⟨N22, eN22⟩ : ∃ N, N = (wF N20 633 20 ((zI M 633 20) + 1)) := ⟨_, rfl⟩
      have hN22 : SQ N22 := by rw [eN22]; exact hN20.kf
      have H : Ev none e 180 108 [some (.ref 633), some (.int nt), some (.int a), c3] [] N22 v M' 0 0 := by rw [eN22]; exact Ev.pfi rfl rfl rfl hN20.1 qa_633 qi_61_20 H
      have H : Ev none e 180 0 [some (.ref 633), some (.int nt), some (.int a), c3] [] N22 v M' 0 0 := Ev.back 1 (fun n => rfl) H
      have HF := H
      subst eN20 eN22
      exact Or.inr (Or.inr (Or.inr (Or.inr (Or.inr (Or.inr (⟨h1, h14, b19, HF⟩))))))
theorem oe_124 {e : Nat} {M M' : Mem} {v : Option Value} {nt a : Int32} {c3 : Option Value} (hS : SQ M) (H : Ev none e 180 124 [some (.ref 633), some (.int nt), some (.int a), c3] [] M v M' 0 0) : (∃ e1 v1 M1, e = e1 + 1 ∧ Ev none e1 175 0 [some (.ref 633), some (.int 3)] [] M v1 M1 0 0 ∧ Ev none e 180 202 [some (.ref 633), some (.int nt), some (.int a), c3] (v1.toList ++ []) M1 v M' 0 0) := by
  have H : Ev none e 180 199 [some (.ref 633), some (.int nt), some (.int a), c3] [.int 3, .ref 633] M v M' 0 0 := Ev.back 3 (fun n => rfl) H
  obtain ⟨e1, rfl⟩ := Ev.dpos rfl rfl H
  obtain ⟨vK1, MK1, K1, H⟩ := Ev.callb (fun n => gs_7 rfl rfl (show gCal (.invokevirtual 303) 11 (.int 3 :: .ref 633 :: []) M = some (.inr (175, [some (.ref 633), some (.int 3)], [])) from by show @cond (Option ((List Value × Mem) ⊕ (Nat × Lo × List Value))) (true && gRecv M (.ref 633) 11 && gRoom [] && true) (some (.inr (175, [some (.ref 633), some (.int 3)], []))) none = _; rw [recv_s hS.1 qa_633 qo_61]; rfl)) H
  have K1 : Ev none e1 175 0 [some (.ref 633), some (.int 3)] [] M vK1 MK1 0 0 := K1
  have HF := H
  exact ⟨e1, vK1, MK1, rfl, K1, HF⟩
theorem oe_193 {e : Nat} {M M' : Mem} {v : Option Value} {nt a sg : Int32} (hS : SQ M) (H : Ev none e 180 193 [some (.ref 633), some (.int nt), some (.int a), some (.int sg)] [] M v M' 0 0) : (∃ e1 v1 M1, e = e1 + 1 ∧ Ev none e1 162 0 [some (.ref 633), none, none, none] [] M v1 M1 0 0 ∧ Ev none e 180 197 [some (.ref 633), some (.int nt), some (.int a), some (.int sg)] (v1.toList ++ []) M1 v M' 0 0) := by
  have H : Ev none e 180 194 [some (.ref 633), some (.int nt), some (.int a), some (.int sg)] [.ref 633] M v M' 0 0 := Ev.back 1 (fun n => rfl) H
  obtain ⟨e1, rfl⟩ := Ev.dpos rfl rfl H
  obtain ⟨vK1, MK1, K1, H⟩ := Ev.callb (fun n => gs_7 rfl rfl (show gCal (.invokevirtual 201) 11 (.ref 633 :: []) M = some (.inr (162, [some (.ref 633), none, none, none], [])) from by show @cond (Option ((List Value × Mem) ⊕ (Nat × Lo × List Value))) (true && gRecv M (.ref 633) 11 && gRoom [] && true) (some (.inr (162, [some (.ref 633), none, none, none], []))) none = _; rw [recv_s hS.1 qa_633 qo_61]; rfl)) H
  have K1 : Ev none e1 162 0 [some (.ref 633), none, none, none] [] M vK1 MK1 0 0 := K1
  have HF := H
  exact ⟨e1, vK1, MK1, rfl, K1, HF⟩
theorem oe_159 {e : Nat} {M M' : Mem} {v : Option Value} {nt a y : Int32} {c3 : Option Value} (hS : SQ M) (H : Ev none e 180 159 [some (.ref 633), some (.int nt), some (.int a), c3] [.int y] M v M' 0 0) : v = some (.int y) ∧ M' = M := by
  obtain ⟨z1, z2⟩ := Ev.retz rfl rfl H
  exact ⟨z1, z2⟩
theorem oe_169 {e : Nat} {M M' : Mem} {v : Option Value} {nt a sg : Int32} (hS : SQ M) (H : Ev none e 180 169 [some (.ref 633), some (.int nt), some (.int a), some (.int sg)] [] M v M' 0 0) : ((zI M 633 22) = 2 ∧ (∃ e1 v1 M1, e = e1 + 1 ∧ Ev none e1 174 0 [some (.ref 633), some (.int a), some (.int sg), some (.int (zI M 633 25))] [] M v1 M1 0 0 ∧ Ev none e 180 193 [some (.ref 633), some (.int nt), some (.int a), some (.int sg)] (v1.toList ++ []) M1 v M' 0 0)) ∨ (¬ ((zI M 633 22) = 2) ∧ (∃ e1 v1 M1, e = e1 + 1 ∧ Ev none e1 163 0 [some (.ref 633), some (.int 1)] [] M v1 M1 0 0 ∧ Ev none e 180 182 [some (.ref 633), some (.int nt), some (.int a), some (.int sg)] (v1.toList ++ []) M1 v M' 0 0)) := by
  have H : Ev none e 180 170 [some (.ref 633), some (.int nt), some (.int a), some (.int sg)] [.ref 633] M v M' 0 0 := Ev.back 1 (fun n => rfl) H
  have H : Ev none e 180 173 [some (.ref 633), some (.int nt), some (.int a), some (.int sg)] [.int (zI M 633 22)] M v M' 0 0 := Ev.back 1 (gs_3 rfl rfl (gf_i hS.1 qa_633 qi_61_22 rfl)) H
  have H : Ev none e 180 (if (zI M 633 22) = 2 then 183 else 177) [some (.ref 633), some (.int nt), some (.int a), some (.int sg)] [] M v M' 0 0 := Ev.back 2 (fun n => rfl) H
  by_cases h1 : (zI M 633 22) = 2
  · rw [if_pos h1] at H
    have H : Ev none e 180 187 [some (.ref 633), some (.int nt), some (.int a), some (.int sg)] [.ref 633, .int sg, .int a, .ref 633] M v M' 0 0 := Ev.back 4 (fun n => rfl) H
    have H : Ev none e 180 190 [some (.ref 633), some (.int nt), some (.int a), some (.int sg)] [.int (zI M 633 25), .int sg, .int a, .ref 633] M v M' 0 0 := Ev.back 1 (gs_3 rfl rfl (gf_i hS.1 qa_633 qi_61_25 rfl)) H
    obtain ⟨e1, rfl⟩ := Ev.dpos rfl rfl H
    obtain ⟨vK2, MK2, K2, H⟩ := Ev.callb (fun n => gs_7 rfl rfl (show gCal (.invokevirtual 294) 11 (.int (zI M 633 25) :: .int sg :: .int a :: .ref 633 :: []) M = some (.inr (174, [some (.ref 633), some (.int a), some (.int sg), some (.int (zI M 633 25))], [])) from by show @cond (Option ((List Value × Mem) ⊕ (Nat × Lo × List Value))) (true && gRecv M (.ref 633) 11 && gRoom [] && true) (some (.inr (174, [some (.ref 633), some (.int a), some (.int sg), some (.int (zI M 633 25))], []))) none = _; rw [recv_s hS.1 qa_633 qo_61]; rfl)) H
    have K2 : Ev none e1 174 0 [some (.ref 633), some (.int a), some (.int sg), some (.int (zI M 633 25))] [] M vK2 MK2 0 0 := K2
    have HF := H
    exact Or.inl ⟨h1, ⟨e1, vK2, MK2, rfl, K2, HF⟩⟩
  · rw [if_neg h1] at H
    have H : Ev none e 180 179 [some (.ref 633), some (.int nt), some (.int a), some (.int sg)] [.int 1, .ref 633] M v M' 0 0 := Ev.back 2 (fun n => rfl) H
    obtain ⟨e1, rfl⟩ := Ev.dpos rfl rfl H
    obtain ⟨vK3, MK3, K3, H⟩ := Ev.callb (fun n => gs_7 rfl rfl (show gCal (.invokevirtual 198) 11 (.int 1 :: .ref 633 :: []) M = some (.inr (163, [some (.ref 633), some (.int 1)], [])) from by show @cond (Option ((List Value × Mem) ⊕ (Nat × Lo × List Value))) (true && gRecv M (.ref 633) 11 && gRoom [] && true) (some (.inr (163, [some (.ref 633), some (.int 1)], []))) none = _; rw [recv_s hS.1 qa_633 qo_61]; rfl)) H
    have K3 : Ev none e1 163 0 [some (.ref 633), some (.int 1)] [] M vK3 MK3 0 0 := K3
    have HF := H
    exact Or.inr (⟨h1, ⟨e1, vK3, MK3, rfl, K3, HF⟩⟩)
theorem oe_182 {e : Nat} {M M' : Mem} {v : Option Value} {nt a sg y : Int32} (hS : SQ M) (H : Ev none e 180 182 [some (.ref 633), some (.int nt), some (.int a), some (.int sg)] [.int y] M v M' 0 0) : v = some (.int y) ∧ M' = M := by
  obtain ⟨z1, z2⟩ := Ev.retz rfl rfl H
  exact ⟨z1, z2⟩
theorem oe_197 {e : Nat} {M M' : Mem} {v : Option Value} {nt a : Int32} {c3 : Option Value} (hS : SQ M) (H : Ev none e 180 197 [some (.ref 633), some (.int nt), some (.int a), c3] [] M v M' 0 0) : (∃ e1 v1 M1, e = e1 + 1 ∧ Ev none e1 175 0 [some (.ref 633), some (.int 3)] [] M v1 M1 0 0 ∧ Ev none e 180 202 [some (.ref 633), some (.int nt), some (.int a), c3] (v1.toList ++ []) M1 v M' 0 0) := by
  have H : Ev none e 180 199 [some (.ref 633), some (.int nt), some (.int a), c3] [.int 3, .ref 633] M v M' 0 0 := Ev.back 2 (fun n => rfl) H
  obtain ⟨e1, rfl⟩ := Ev.dpos rfl rfl H
  obtain ⟨vK1, MK1, K1, H⟩ := Ev.callb (fun n => gs_7 rfl rfl (show gCal (.invokevirtual 303) 11 (.int 3 :: .ref 633 :: []) M = some (.inr (175, [some (.ref 633), some (.int 3)], [])) from by show @cond (Option ((List Value × Mem) ⊕ (Nat × Lo × List Value))) (true && gRecv M (.ref 633) 11 && gRoom [] && true) (some (.inr (175, [some (.ref 633), some (.int 3)], []))) none = _; rw [recv_s hS.1 qa_633 qo_61]; rfl)) H
  have K1 : Ev none e1 175 0 [some (.ref 633), some (.int 3)] [] M vK1 MK1 0 0 := K1
  have HF := H
  exact ⟨e1, vK1, MK1, rfl, K1, HF⟩
theorem oe_202 {e : Nat} {M M' : Mem} {v : Option Value} {nt a : Int32} {c3 : Option Value} (hS : SQ M) (H : Ev none e 180 202 [some (.ref 633), some (.int nt), some (.int a), c3] [] M v M' 0 0) : v = some (.int 1) ∧ M' = M := by
  have H : Ev none e 180 203 [some (.ref 633), some (.int nt), some (.int a), c3] [.int 1] M v M' 0 0 := Ev.back 1 (fun n => rfl) H
  obtain ⟨z1, z2⟩ := Ev.retz rfl rfl H
  exact ⟨z1, z2⟩
theorem ceq_0 {e : Nat} {M M' : Mem} {v : Option Value} {c1 : Option Value} (hS : SQ M) (H : Ev none e 179 0 [some (.ref 633), c1] [] M v M' 0 0) : Ev none e 179 5 [some (.ref 633), c1] [] (wF M 633 20 0) v M' 0 0 := by
  have H : Ev none e 179 2 [some (.ref 633), c1] [.int 0, .ref 633] M v M' 0 0 := Ev.back 2 (fun n => rfl) H
  obtain ⟨N2, eN2⟩ : ∃ N, N = (wF M 633 20 0) := ⟨_, rfl⟩
  have hN2 : SQ N2 := by rw [eN2]; exact hS.kf
  have H : Ev none e 179 5 [some (.ref 633), c1] [] N2 v M' 0 0 := by rw [eN2]; exact Ev.pfi rfl rfl rfl hS.1 qa_633 qi_61_20 H
  have HF := H
  subst eN2
  exact HF
theorem ceq_5 {e : Nat} {M M' : Mem} {v : Option Value} {c1 : Option Value} (hS : SQ M) (H : Ev none e 179 5 [some (.ref 633), c1] [] M v M' 0 0) : (∃ e1 v1 M1, e = e1 + 1 ∧ Ev none e1 180 0 [some (.ref 633), none, none, none] [] M v1 M1 0 0 ∧ Ev none e 179 9 [some (.ref 633), c1] (v1.toList ++ []) M1 v M' 0 0) := by
  have H : Ev none e 179 6 [some (.ref 633), c1] [.ref 633] M v M' 0 0 := Ev.back 1 (fun n => rfl) H
  obtain ⟨e1, rfl⟩ := Ev.dpos rfl rfl H
  obtain ⟨vK1, MK1, K1, H⟩ := Ev.callb (fun n => gs_7 rfl rfl (show gCal (.invokevirtual 297) 11 (.ref 633 :: []) M = some (.inr (180, [some (.ref 633), none, none, none], [])) from by show @cond (Option ((List Value × Mem) ⊕ (Nat × Lo × List Value))) (true && gRecv M (.ref 633) 11 && gRoom [] && true) (some (.inr (180, [some (.ref 633), none, none, none], []))) none = _; rw [recv_s hS.1 qa_633 qo_61]; rfl)) H
  have K1 : Ev none e1 180 0 [some (.ref 633), none, none, none] [] M vK1 MK1 0 0 := K1
  have HF := H
  exact ⟨e1, vK1, MK1, rfl, K1, HF⟩
theorem ceq_9 {e : Nat} {M M' : Mem} {v : Option Value} {y : Int32} {c1 : Option Value} (hS : SQ M) (H : Ev none e 179 9 [some (.ref 633), c1] [.int y] M v M' 0 0) : (y = 0 ∧ v = some (.int 0) ∧ M' = M) ∨ (¬ (y = 0) ∧ Ev none e 179 14 [some (.ref 633), c1] [] M v M' 0 0) := by
  have H : Ev none e 179 (if y = 0 then 12 else 14) [some (.ref 633), c1] [] M v M' 0 0 := Ev.back 1 (fun n => rfl) H
  by_cases h1 : y = 0
  · rw [if_pos h1] at H
    have H : Ev none e 179 13 [some (.ref 633), c1] [.int 0] M v M' 0 0 := Ev.back 1 (fun n => rfl) H
    obtain ⟨z1, z2⟩ := Ev.retz rfl rfl H
    exact Or.inl ⟨h1, z1, z2⟩
  · rw [if_neg h1] at H
    have HF := H
    exact Or.inr (⟨h1, HF⟩)
theorem ceq_14 {e : Nat} {M M' : Mem} {v : Option Value} {c1 : Option Value} (hS : SQ M) (H : Ev none e 179 14 [some (.ref 633), c1] [] M v M' 0 0) : ((G_165 M 41) = 0 ∧ Ev none e 179 57 [some (.ref 633), c1] [] M v M' 0 0) ∨ (¬ ((G_165 M 41) = 0) ∧ (∃ e1 v1 M1, e = e1 + 1 ∧ Ev none e1 178 0 [some (.ref 633), none] [] M v1 M1 0 0 ∧ Ev none e 179 27 [some (.ref 633), c1] (v1.toList ++ []) M1 v M' 0 0)) := by
  have H : Ev none e 179 17 [some (.ref 633), c1] [.int 41, .ref 633] M v M' 0 0 := Ev.back 2 (fun n => rfl) H
  obtain ⟨e1, rfl⟩ := Ev.dpos rfl rfl H
  obtain ⟨vK1, MK1, K1, H⟩ := Ev.callb (fun n => gs_7 rfl rfl (show gCal (.invokevirtual 195) 11 (.int 41 :: .ref 633 :: []) M = some (.inr (165, [some (.ref 633), some (.int 41)], [])) from by show @cond (Option ((List Value × Mem) ⊕ (Nat × Lo × List Value))) (true && gRecv M (.ref 633) 11 && gRoom [] && true) (some (.inr (165, [some (.ref 633), some (.int 41)], []))) none = _; rw [recv_s hS.1 qa_633 qo_61]; rfl)) H
  obtain ⟨pK1, qK1⟩ := g_165 hS K1
  rw [pK1, qK1] at H
  have H : Ev none (e1 + 1) 179 20 [some (.ref 633), c1] [.int (G_165 M 41)] M v M' 0 0 := H
  have H : Ev none (e1 + 1) 179 (if (G_165 M 41) = 0 then 57 else 23) [some (.ref 633), c1] [] M v M' 0 0 := Ev.back 1 (fun n => rfl) H
  by_cases h2 : (G_165 M 41) = 0
  · rw [if_pos h2] at H
    have HF := H
    exact Or.inl ⟨h2, HF⟩
  · rw [if_neg h2] at H
    have H : Ev none (e1 + 1) 179 24 [some (.ref 633), c1] [.ref 633] M v M' 0 0 := Ev.back 1 (fun n => rfl) H
    obtain ⟨vK3, MK3, K3, H⟩ := Ev.callb (fun n => gs_7 rfl rfl (show gCal (.invokevirtual 300) 11 (.ref 633 :: []) M = some (.inr (178, [some (.ref 633), none], [])) from by show @cond (Option ((List Value × Mem) ⊕ (Nat × Lo × List Value))) (true && gRecv M (.ref 633) 11 && gRoom [] && true) (some (.inr (178, [some (.ref 633), none], []))) none = _; rw [recv_s hS.1 qa_633 qo_61]; rfl)) H
    have K3 : Ev none e1 178 0 [some (.ref 633), none] [] M vK3 MK3 0 0 := K3
    have HF := H
    exact Or.inr (⟨h2, ⟨e1, vK3, MK3, rfl, K3, HF⟩⟩)
theorem ceq_27 {e : Nat} {M M' : Mem} {v : Option Value} {y : Int32} {c1 : Option Value} (hS : SQ M) (H : Ev none e 179 27 [some (.ref 633), c1] [.int y] M v M' 0 0) : (y = 0 ∧ Ev none e 179 57 [some (.ref 633), c1] [] M v M' 0 0) ∨ (¬ (y = 0) ∧ (∃ e1 v1 M1, e = e1 + 1 ∧ Ev none e1 175 0 [some (.ref 633), some (.int 1)] [] M v1 M1 0 0 ∧ Ev none e 179 35 [some (.ref 633), c1] (v1.toList ++ []) M1 v M' 0 0)) := by
  have H : Ev none e 179 (if y = 0 then 57 else 30) [some (.ref 633), c1] [] M v M' 0 0 := Ev.back 1 (fun n => rfl) H
  by_cases h1 : y = 0
  · rw [if_pos h1] at H
    have HF := H
    exact Or.inl ⟨h1, HF⟩
  · rw [if_neg h1] at H
    have H : Ev none e 179 32 [some (.ref 633), c1] [.int 1, .ref 633] M v M' 0 0 := Ev.back 2 (fun n => rfl) H
    obtain ⟨e1, rfl⟩ := Ev.dpos rfl rfl H
    obtain ⟨vK2, MK2, K2, H⟩ := Ev.callb (fun n => gs_7 rfl rfl (show gCal (.invokevirtual 303) 11 (.int 1 :: .ref 633 :: []) M = some (.inr (175, [some (.ref 633), some (.int 1)], [])) from by show @cond (Option ((List Value × Mem) ⊕ (Nat × Lo × List Value))) (true && gRecv M (.ref 633) 11 && gRoom [] && true) (some (.inr (175, [some (.ref 633), some (.int 1)], []))) none = _; rw [recv_s hS.1 qa_633 qo_61]; rfl)) H
    have K2 : Ev none e1 175 0 [some (.ref 633), some (.int 1)] [] M vK2 MK2 0 0 := K2
    have HF := H
    exact Or.inr (⟨h1, ⟨e1, vK2, MK2, rfl, K2, HF⟩⟩)
theorem ceq_35 {e : Nat} {M M' : Mem} {v : Option Value} {c1 : Option Value} (hS : SQ M) (H : Ev none e 179 35 [some (.ref 633), c1] [] M v M' 0 0) : (∃ e1 v1 M1, e = e1 + 1 ∧ Ev none e1 175 0 [some (.ref 633), some (.int 3)] [] (wF M 633 20 ((zI M 633 20) - 1)) v1 M1 0 0 ∧ Ev none e 179 50 [some (.ref 633), c1] (v1.toList ++ []) M1 v M' 0 0) := by
  have H : Ev none e 179 37 [some (.ref 633), c1] [.ref 633, .ref 633] M v M' 0 0 := Ev.back 2 (fun n => rfl) H
  have H : Ev none e 179 40 [some (.ref 633), c1] [.int (zI M 633 20), .ref 633] M v M' 0 0 := Ev.back 1 (gs_3 rfl rfl (gf_i hS.1 qa_633 qi_61_20 rfl)) H
  have H : Ev none e 179 42 [some (.ref 633), c1] [.int ((zI M 633 20) - 1), .ref 633] M v M' 0 0 := Ev.back 2 (fun n => rfl) H
  obtain ⟨N2, eN2⟩ : ∃ N, N = (wF M 633 20 ((zI M 633 20) - 1)) := ⟨_, rfl⟩
  have hN2 : SQ N2 := by rw [eN2]; exact hS.kf
  have H : Ev none e 179 45 [some (.ref 633), c1] [] N2 v M' 0 0 := by rw [eN2]; exact Ev.pfi rfl rfl rfl hS.1 qa_633 qi_61_20 H
  have H : Ev none e 179 47 [some (.ref 633), c1] [.int 3, .ref 633] N2 v M' 0 0 := Ev.back 2 (fun n => rfl) H
  obtain ⟨e1, rfl⟩ := Ev.dpos rfl rfl H
  obtain ⟨vK3, MK3, K3, H⟩ := Ev.callb (fun n => gs_7 rfl rfl (show gCal (.invokevirtual 303) 11 (.int 3 :: .ref 633 :: []) N2 = some (.inr (175, [some (.ref 633), some (.int 3)], [])) from by show @cond (Option ((List Value × Mem) ⊕ (Nat × Lo × List Value))) (true && gRecv N2 (.ref 633) 11 && gRoom [] && true) (some (.inr (175, [some (.ref 633), some (.int 3)], []))) none = _; rw [recv_s hN2.1 qa_633 qo_61]; rfl)) H
  have K3 : Ev none e1 175 0 [some (.ref 633), some (.int 3)] [] N2 vK3 MK3 0 0 := K3
  have HF := H
  subst eN2
  exact ⟨e1, vK3, MK3, rfl, K3, HF⟩
theorem ceq_50 {e : Nat} {M M' : Mem} {v : Option Value} {c1 : Option Value} (hS : SQ M) (H : Ev none e 179 50 [some (.ref 633), c1] [] M v M' 0 0) : (∃ e1 v1 M1, e = e1 + 1 ∧ Ev none e1 162 0 [some (.ref 633), none, none, none] [] M v1 M1 0 0 ∧ Ev none e 179 54 [some (.ref 633), c1] (v1.toList ++ []) M1 v M' 0 0) := by
  have H : Ev none e 179 51 [some (.ref 633), c1] [.ref 633] M v M' 0 0 := Ev.back 1 (fun n => rfl) H
  obtain ⟨e1, rfl⟩ := Ev.dpos rfl rfl H
  obtain ⟨vK1, MK1, K1, H⟩ := Ev.callb (fun n => gs_7 rfl rfl (show gCal (.invokevirtual 201) 11 (.ref 633 :: []) M = some (.inr (162, [some (.ref 633), none, none, none], [])) from by show @cond (Option ((List Value × Mem) ⊕ (Nat × Lo × List Value))) (true && gRecv M (.ref 633) 11 && gRoom [] && true) (some (.inr (162, [some (.ref 633), none, none, none], []))) none = _; rw [recv_s hS.1 qa_633 qo_61]; rfl)) H
  have K1 : Ev none e1 162 0 [some (.ref 633), none, none, none] [] M vK1 MK1 0 0 := K1
  have HF := H
  exact ⟨e1, vK1, MK1, rfl, K1, HF⟩
theorem ceq_54 {e : Nat} {M M' : Mem} {v : Option Value} {c1 : Option Value} (hS : SQ M) (H : Ev none e 179 54 [some (.ref 633), c1] [] M v M' 0 0) : Ev none e 179 14 [some (.ref 633), c1] [] M v M' 0 0 := by
  have H : Ev none e 179 14 [some (.ref 633), c1] [] M v M' 0 0 := Ev.back 1 (fun n => rfl) H
  have HF := H
  exact HF
theorem ceq_57 {e : Nat} {M M' : Mem} {v : Option Value} {c1 : Option Value} (hS : SQ M) (H : Ev none e 179 57 [some (.ref 633), c1] [] M v M' 0 0) : ((G_164 M 6385252) = 0 ∧ (G_164 M 28530) = 0 ∧ (∃ e1 v1 M1, e = e1 + 1 ∧ Ev none e1 178 0 [some (.ref 633), none] [] M v1 M1 0 0 ∧ Ev none e 179 83 [some (.ref 633), some (.int (G_164 M 6385252))] (v1.toList ++ []) M1 v M' 0 0)) ∨ ((G_164 M 6385252) = 0 ∧ ¬ ((G_164 M 28530) = 0) ∧ (∃ e1 v1 M1, e = e1 + 1 ∧ Ev none e1 175 0 [some (.ref 633), some (.int 1)] [] M v1 M1 0 0 ∧ Ev none e 179 112 [some (.ref 633), some (.int (G_164 M 6385252))] (v1.toList ++ []) M1 v M' 0 0)) ∨ (¬ ((G_164 M 6385252) = 0) ∧ (∃ e1 v1 M1, e = e1 + 1 ∧ Ev none e1 175 0 [some (.ref 633), some (.int 2)] [] M v1 M1 0 0 ∧ Ev none e 179 112 [some (.ref 633), some (.int (G_164 M 6385252))] (v1.toList ++ []) M1 v M' 0 0)) := by
  have H : Ev none e 179 61 [some (.ref 633), c1] [.long 6385252, .ref 633] M v M' 0 0 := Ev.back 2 (fun n => rfl) H
  obtain ⟨e1, rfl⟩ := Ev.dpos rfl rfl H
  obtain ⟨vK1, MK1, K1, H⟩ := Ev.callb (fun n => gs_7 rfl rfl (show gCal (.invokevirtual 248) 11 (.long 6385252 :: .ref 633 :: []) M = some (.inr (164, [some (.ref 633), some (.long 6385252), none], [])) from by show @cond (Option ((List Value × Mem) ⊕ (Nat × Lo × List Value))) (true && gRecv M (.ref 633) 11 && gRoom [] && true) (some (.inr (164, [some (.ref 633), some (.long 6385252), none], []))) none = _; rw [recv_s hS.1 qa_633 qo_61]; rfl)) H
  obtain ⟨pK1, qK1⟩ := g_164 hS K1
  rw [pK1, qK1] at H
  have H : Ev none (e1 + 1) 179 64 [some (.ref 633), c1] [.int (G_164 M 6385252)] M v M' 0 0 := H
  have H : Ev none (e1 + 1) 179 (if (G_164 M 6385252) = 0 then 69 else 99) [some (.ref 633), some (.int (G_164 M 6385252))] [] M v M' 0 0 := Ev.back 3 (fun n => rfl) H
  by_cases h2 : (G_164 M 6385252) = 0
  · rw [if_pos h2] at H
    have H : Ev none (e1 + 1) 179 73 [some (.ref 633), some (.int (G_164 M 6385252))] [.long 28530, .ref 633] M v M' 0 0 := Ev.back 2 (fun n => rfl) H
    obtain ⟨vK3, MK3, K3, H⟩ := Ev.callb (fun n => gs_7 rfl rfl (show gCal (.invokevirtual 248) 11 (.long 28530 :: .ref 633 :: []) M = some (.inr (164, [some (.ref 633), some (.long 28530), none], [])) from by show @cond (Option ((List Value × Mem) ⊕ (Nat × Lo × List Value))) (true && gRecv M (.ref 633) 11 && gRoom [] && true) (some (.inr (164, [some (.ref 633), some (.long 28530), none], []))) none = _; rw [recv_s hS.1 qa_633 qo_61]; rfl)) H
    obtain ⟨pK3, qK3⟩ := g_164 hS K3
    rw [pK3, qK3] at H
    have H : Ev none (e1 + 1) 179 76 [some (.ref 633), some (.int (G_164 M 6385252))] [.int (G_164 M 28530)] M v M' 0 0 := H
    have H : Ev none (e1 + 1) 179 (if (G_164 M 28530) = 0 then 79 else 99) [some (.ref 633), some (.int (G_164 M 6385252))] [] M v M' 0 0 := Ev.back 1 (fun n => rfl) H
    by_cases h4 : (G_164 M 28530) = 0
    · rw [if_pos h4] at H
      have H : Ev none (e1 + 1) 179 80 [some (.ref 633), some (.int (G_164 M 6385252))] [.ref 633] M v M' 0 0 := Ev.back 1 (fun n => rfl) H
      obtain ⟨vK5, MK5, K5, H⟩ := Ev.callb (fun n => gs_7 rfl rfl (show gCal (.invokevirtual 300) 11 (.ref 633 :: []) M = some (.inr (178, [some (.ref 633), none], [])) from by show @cond (Option ((List Value × Mem) ⊕ (Nat × Lo × List Value))) (true && gRecv M (.ref 633) 11 && gRoom [] && true) (some (.inr (178, [some (.ref 633), none], []))) none = _; rw [recv_s hS.1 qa_633 qo_61]; rfl)) H
      have K5 : Ev none e1 178 0 [some (.ref 633), none] [] M vK5 MK5 0 0 := K5
      have HF := H
      exact Or.inl ⟨h2, h4, ⟨e1, vK5, MK5, rfl, K5, HF⟩⟩
    · rw [if_neg h4] at H
      have H : Ev none (e1 + 1) 179 (if (G_164 M 6385252) = 0 then 108 else 104) [some (.ref 633), some (.int (G_164 M 6385252))] [.ref 633] M v M' 0 0 := Ev.back 3 (fun n => rfl) H
      rw [if_pos h2] at H
      have H : Ev none (e1 + 1) 179 109 [some (.ref 633), some (.int (G_164 M 6385252))] [.int 1, .ref 633] M v M' 0 0 := Ev.back 1 (fun n => rfl) H
      obtain ⟨vK6, MK6, K6, H⟩ := Ev.callb (fun n => gs_7 rfl rfl (show gCal (.invokevirtual 303) 11 (.int 1 :: .ref 633 :: []) M = some (.inr (175, [some (.ref 633), some (.int 1)], [])) from by show @cond (Option ((List Value × Mem) ⊕ (Nat × Lo × List Value))) (true && gRecv M (.ref 633) 11 && gRoom [] && true) (some (.inr (175, [some (.ref 633), some (.int 1)], []))) none = _; rw [recv_s hS.1 qa_633 qo_61]; rfl)) H
      have K6 : Ev none e1 175 0 [some (.ref 633), some (.int 1)] [] M vK6 MK6 0 0 := K6
      have HF := H
      exact Or.inr (Or.inl ⟨h2, h4, ⟨e1, vK6, MK6, rfl, K6, HF⟩⟩)
  · rw [if_neg h2] at H
    have H : Ev none (e1 + 1) 179 (if (G_164 M 6385252) = 0 then 108 else 104) [some (.ref 633), some (.int (G_164 M 6385252))] [.ref 633] M v M' 0 0 := Ev.back 3 (fun n => rfl) H
    rw [if_neg h2] at H
    have H : Ev none (e1 + 1) 179 109 [some (.ref 633), some (.int (G_164 M 6385252))] [.int 2, .ref 633] M v M' 0 0 := Ev.back 2 (fun n => rfl) H
    obtain ⟨vK7, MK7, K7, H⟩ := Ev.callb (fun n => gs_7 rfl rfl (show gCal (.invokevirtual 303) 11 (.int 2 :: .ref 633 :: []) M = some (.inr (175, [some (.ref 633), some (.int 2)], [])) from by show @cond (Option ((List Value × Mem) ⊕ (Nat × Lo × List Value))) (true && gRecv M (.ref 633) 11 && gRoom [] && true) (some (.inr (175, [some (.ref 633), some (.int 2)], []))) none = _; rw [recv_s hS.1 qa_633 qo_61]; rfl)) H
    have K7 : Ev none e1 175 0 [some (.ref 633), some (.int 2)] [] M vK7 MK7 0 0 := K7
    have HF := H
    exact Or.inr (Or.inr (⟨h2, ⟨e1, vK7, MK7, rfl, K7, HF⟩⟩))
theorem ceq_83 {e : Nat} {M M' : Mem} {v : Option Value} {an y : Int32} (hS : SQ M) (H : Ev none e 179 83 [some (.ref 633), some (.int an)] [.int y] M v M' 0 0) : (y = 0 ∧ (∃ e1 v1 M1, e = e1 + 1 ∧ Ev none e1 175 0 [some (.ref 633), some (.int 1)] [] M v1 M1 0 0 ∧ Ev none e 179 97 [some (.ref 633), some (.int an)] (v1.toList ++ []) M1 v M' 0 0)) ∨ (¬ (y = 0) ∧ (∃ e1 v1 M1, e = e1 + 1 ∧ Ev none e1 163 0 [some (.ref 633), some (.int 1)] [] M v1 M1 0 0 ∧ Ev none e 179 91 [some (.ref 633), some (.int an)] (v1.toList ++ []) M1 v M' 0 0)) := by
  have H : Ev none e 179 (if y = 0 then 92 else 86) [some (.ref 633), some (.int an)] [] M v M' 0 0 := Ev.back 1 (fun n => rfl) H
  by_cases h1 : y = 0
  · rw [if_pos h1] at H
    have H : Ev none e 179 94 [some (.ref 633), some (.int an)] [.int 1, .ref 633] M v M' 0 0 := Ev.back 2 (fun n => rfl) H
    obtain ⟨e1, rfl⟩ := Ev.dpos rfl rfl H
    obtain ⟨vK2, MK2, K2, H⟩ := Ev.callb (fun n => gs_7 rfl rfl (show gCal (.invokevirtual 303) 11 (.int 1 :: .ref 633 :: []) M = some (.inr (175, [some (.ref 633), some (.int 1)], [])) from by show @cond (Option ((List Value × Mem) ⊕ (Nat × Lo × List Value))) (true && gRecv M (.ref 633) 11 && gRoom [] && true) (some (.inr (175, [some (.ref 633), some (.int 1)], []))) none = _; rw [recv_s hS.1 qa_633 qo_61]; rfl)) H
    have K2 : Ev none e1 175 0 [some (.ref 633), some (.int 1)] [] M vK2 MK2 0 0 := K2
    have HF := H
    exact Or.inl ⟨h1, ⟨e1, vK2, MK2, rfl, K2, HF⟩⟩
  · rw [if_neg h1] at H
    have H : Ev none e 179 88 [some (.ref 633), some (.int an)] [.int 1, .ref 633] M v M' 0 0 := Ev.back 2 (fun n => rfl) H
    obtain ⟨e1, rfl⟩ := Ev.dpos rfl rfl H
    obtain ⟨vK3, MK3, K3, H⟩ := Ev.callb (fun n => gs_7 rfl rfl (show gCal (.invokevirtual 198) 11 (.int 1 :: .ref 633 :: []) M = some (.inr (163, [some (.ref 633), some (.int 1)], [])) from by show @cond (Option ((List Value × Mem) ⊕ (Nat × Lo × List Value))) (true && gRecv M (.ref 633) 11 && gRoom [] && true) (some (.inr (163, [some (.ref 633), some (.int 1)], []))) none = _; rw [recv_s hS.1 qa_633 qo_61]; rfl)) H
    have K3 : Ev none e1 163 0 [some (.ref 633), some (.int 1)] [] M vK3 MK3 0 0 := K3
    have HF := H
    exact Or.inr (⟨h1, ⟨e1, vK3, MK3, rfl, K3, HF⟩⟩)
theorem ceq_91 {e : Nat} {M M' : Mem} {v : Option Value} {an y : Int32} (hS : SQ M) (H : Ev none e 179 91 [some (.ref 633), some (.int an)] [.int y] M v M' 0 0) : v = some (.int y) ∧ M' = M := by
  obtain ⟨z1, z2⟩ := Ev.retz rfl rfl H
  exact ⟨z1, z2⟩
theorem ceq_97 {e : Nat} {M M' : Mem} {v : Option Value} {an : Int32} (hS : SQ M) (H : Ev none e 179 97 [some (.ref 633), some (.int an)] [] M v M' 0 0) : v = some (.int 1) ∧ M' = M := by
  have H : Ev none e 179 98 [some (.ref 633), some (.int an)] [.int 1] M v M' 0 0 := Ev.back 1 (fun n => rfl) H
  obtain ⟨z1, z2⟩ := Ev.retz rfl rfl H
  exact ⟨z1, z2⟩
theorem ceq_112 {e : Nat} {M M' : Mem} {v : Option Value} {an : Int32} (hS : SQ M) (H : Ev none e 179 112 [some (.ref 633), some (.int an)] [] M v M' 0 0) : (an = 0 ∧ (0 ≤ (zI M 633 20).toInt ∧ (zI M 633 20).toInt < 100) ∧ (∃ e1 v1 M1, e = e1 + 1 ∧ Ev none e1 162 0 [some (.ref 633), none, none, none] [] (wF (wI M 648 ((zI M 633 20).toNatClampNeg) 22) 633 20 ((zI M 633 20) + 1)) v1 M1 0 0 ∧ Ev none e 179 146 [some (.ref 633), some (.int an)] (v1.toList ++ []) M1 v M' 0 0)) ∨ (¬ (an = 0) ∧ (0 ≤ (zI M 633 20).toInt ∧ (zI M 633 20).toInt < 100) ∧ (∃ e1 v1 M1, e = e1 + 1 ∧ Ev none e1 162 0 [some (.ref 633), none, none, none] [] (wF (wI M 648 ((zI M 633 20).toNatClampNeg) 21) 633 20 ((zI M 633 20) + 1)) v1 M1 0 0 ∧ Ev none e 179 146 [some (.ref 633), some (.int an)] (v1.toList ++ []) M1 v M' 0 0)) := by
  have H : Ev none e 179 113 [some (.ref 633), some (.int an)] [.ref 633] M v M' 0 0 := Ev.back 1 (fun n => rfl) H
  have H : Ev none e 179 116 [some (.ref 633), some (.int an)] [.ref 648] M v M' 0 0 := Ev.back 1 (gs_3 rfl rfl (gf_u hS.1 qa_633 qr_61_18 qu_76 rfl)) H
  have H : Ev none e 179 117 [some (.ref 633), some (.int an)] [.ref 633, .ref 648] M v M' 0 0 := Ev.back 1 (fun n => rfl) H
  have H : Ev none e 179 120 [some (.ref 633), some (.int an)] [.int (zI M 633 20), .ref 648] M v M' 0 0 := Ev.back 1 (gs_3 rfl rfl (gf_i hS.1 qa_633 qi_61_20 rfl)) H
  have H : Ev none e 179 (if an = 0 then 129 else 124) [some (.ref 633), some (.int an)] [.int (zI M 633 20), .ref 648] M v M' 0 0 := Ev.back 2 (fun n => rfl) H
  by_cases h1 : an = 0
  · rw [if_pos h1] at H
    have H : Ev none e 179 131 [some (.ref 633), some (.int an)] [.int 22, .int (zI M 633 20), .ref 648] M v M' 0 0 := Ev.back 1 (fun n => rfl) H
    obtain ⟨b2, H⟩ := Ev.ias rfl rfl hS.1 qa_648 qw_76 H
    obtain ⟨N3, eN3⟩ : ∃ N, N = (wI M 648 ((zI M 633 20).toNatClampNeg) 22) := ⟨_, rfl⟩
    have hN3 : SQ N3 := by rw [eN3]; exact hS.ki
    have H : Ev none e 179 132 [some (.ref 633), some (.int an)] [] N3 v M' 0 0 := by rw [eN3]; exact H
    have H : Ev none e 179 134 [some (.ref 633), some (.int an)] [.ref 633, .ref 633] N3 v M' 0 0 := Ev.back 2 (fun n => rfl) H
    have H : Ev none e 179 137 [some (.ref 633), some (.int an)] [.int (zI N3 633 20), .ref 633] N3 v M' 0 0 := Ev.back 1 (gs_3 rfl rfl (gf_i hN3.1 qa_633 qi_61_20 rfl)) H
    rw [show zI N3 633 20 = zI M 633 20 from by rw [eN3]; exact fI_wI] at H
    have H : Ev none e 179 139 [some (.ref 633), some (.int an)] [.int ((zI M 633 20) + 1), .ref 633] N3 v M' 0 0 := Ev.back 2 (fun n => rfl) H
    obtain ⟨N5, eN5⟩ : ∃ N, N = (wF N3 633 20 ((zI M 633 20) + 1)) := ⟨_, rfl⟩
    have hN5 : SQ N5 := by rw [eN5]; exact hN3.kf
    have H : Ev none e 179 142 [some (.ref 633), some (.int an)] [] N5 v M' 0 0 := by rw [eN5]; exact Ev.pfi rfl rfl rfl hN3.1 qa_633 qi_61_20 H
    have H : Ev none e 179 143 [some (.ref 633), some (.int an)] [.ref 633] N5 v M' 0 0 := Ev.back 1 (fun n => rfl) H
    obtain ⟨e1, rfl⟩ := Ev.dpos rfl rfl H
    obtain ⟨vK6, MK6, K6, H⟩ := Ev.callb (fun n => gs_7 rfl rfl (show gCal (.invokevirtual 201) 11 (.ref 633 :: []) N5 = some (.inr (162, [some (.ref 633), none, none, none], [])) from by show @cond (Option ((List Value × Mem) ⊕ (Nat × Lo × List Value))) (true && gRecv N5 (.ref 633) 11 && gRoom [] && true) (some (.inr (162, [some (.ref 633), none, none, none], []))) none = _; rw [recv_s hN5.1 qa_633 qo_61]; rfl)) H
    have K6 : Ev none e1 162 0 [some (.ref 633), none, none, none] [] N5 vK6 MK6 0 0 := K6
    have HF := H
    subst eN3 eN5
    exact Or.inl ⟨h1, b2, ⟨e1, vK6, MK6, rfl, K6, HF⟩⟩
  · rw [if_neg h1] at H
    have H : Ev none e 179 131 [some (.ref 633), some (.int an)] [.int 21, .int (zI M 633 20), .ref 648] M v M' 0 0 := Ev.back 2 (fun n => rfl) H
    obtain ⟨b7, H⟩ := Ev.ias rfl rfl hS.1 qa_648 qw_76 H
    obtain ⟨N8, eN8⟩ : ∃ N, N = (wI M 648 ((zI M 633 20).toNatClampNeg) 21) := ⟨_, rfl⟩
    have hN8 : SQ N8 := by rw [eN8]; exact hS.ki
    have H : Ev none e 179 132 [some (.ref 633), some (.int an)] [] N8 v M' 0 0 := by rw [eN8]; exact H
    have H : Ev none e 179 134 [some (.ref 633), some (.int an)] [.ref 633, .ref 633] N8 v M' 0 0 := Ev.back 2 (fun n => rfl) H
    have H : Ev none e 179 137 [some (.ref 633), some (.int an)] [.int (zI N8 633 20), .ref 633] N8 v M' 0 0 := Ev.back 1 (gs_3 rfl rfl (gf_i hN8.1 qa_633 qi_61_20 rfl)) H
    rw [show zI N8 633 20 = zI M 633 20 from by rw [eN8]; exact fI_wI] at H
    have H : Ev none e 179 139 [some (.ref 633), some (.int an)] [.int ((zI M 633 20) + 1), .ref 633] N8 v M' 0 0 := Ev.back 2 (fun n => rfl) H
    obtain ⟨N10, eN10⟩ : ∃ N, N = (wF N8 633 20 ((zI M 633 20) + 1)) := ⟨_, rfl⟩
    have hN10 : SQ N10 := by rw [eN10]; exact hN8.kf
    have H : Ev none e 179 142 [some (.ref 633), some (.int an)] [] N10 v M' 0 0 := by rw [eN10]; exact Ev.pfi rfl rfl rfl hN8.1 qa_633 qi_61_20 H
    have H : Ev none e 179 143 [some (.ref 633), some (.int an)] [.ref 633] N10 v M' 0 0 := Ev.back 1 (fun n => rfl) H
    obtain ⟨e1, rfl⟩ := Ev.dpos rfl rfl H
    obtain ⟨vK11, MK11, K11, H⟩ := Ev.callb (fun n => gs_7 rfl rfl (show gCal (.invokevirtual 201) 11 (.ref 633 :: []) N10 = some (.inr (162, [some (.ref 633), none, none, none], [])) from by show @cond (Option ((List Value × Mem) ⊕ (Nat × Lo × List Value))) (true && gRecv N10 (.ref 633) 11 && gRoom [] && true) (some (.inr (162, [some (.ref 633), none, none, none], []))) none = _; rw [recv_s hN10.1 qa_633 qo_61]; rfl)) H
    have K11 : Ev none e1 162 0 [some (.ref 633), none, none, none] [] N10 vK11 MK11 0 0 := K11
    have HF := H
    subst eN8 eN10
    exact Or.inr (⟨h1, b7, ⟨e1, vK11, MK11, rfl, K11, HF⟩⟩)
theorem ceq_146 {e : Nat} {M M' : Mem} {v : Option Value} {an : Int32} (hS : SQ M) (H : Ev none e 179 146 [some (.ref 633), some (.int an)] [] M v M' 0 0) : Ev none e 179 5 [some (.ref 633), some (.int an)] [] M v M' 0 0 := by
  have H : Ev none e 179 5 [some (.ref 633), some (.int an)] [] M v M' 0 0 := Ev.back 1 (fun n => rfl) H
  have HF := H
  exact HF
/-! THE REFERENCE'S cond and one: the state, and how it moves -/
abbrev fQ : List (Nat × Nat) := [(633, 4), (633, 19), (633, 20), (633, 21), (633, 22), (633, 23), (633, 24), (633, 25), (633, 26), (633, 27), (633, 31)]
abbrev wQ : List Nat := [645, 646, 647, 648]
/-- the steps in hand -/
def SC (M : Mem) (cs : List Cdq) : Prop := (zI M 633 19).toInt = (cs.length : Int) ∧ ∀ j c, cs[j]? = some c → rN M 645 (1400 + j) = c.1 ∧ rN M 646 (1400 + j) = c.2.1 ∧ rN M 647 (1400 + j) = c.2.2
/-- the pile, its top first -/
def PLa (M : Mem) : List Int32 → Prop
  | [] => True
  | x :: Q => rN M 648 Q.length = x ∧ PLa M Q
def RC (B : Nat → Int32) (n : Nat) (M : Mem) (s : Sg) (P : List Int32) : Prop := SQ M ∧ bR M = B ∧ (zI M 633 3).toInt = (n : Int) ∧ RTk B n M s.1 ∧ wfT s.1 ∧ gdT B s.1 ∧ (zI M 633 21).toInt = (s.2.1 : Int) ∧ SC M s.2.2 ∧ (zI M 633 20).toInt = (P.length : Int) ∧ PLa M P ∧ zI M 633 26 = 0
noncomputable def bdI (x : Int32) : Int32 := if x = 20 then 3 else (if x = 21 then 2 else 1)
noncomputable def wdP (le : Int32) : List Int32 → List Cdq → List Int32 × List Cdq
  | [], cs => ([], cs)
  | x :: Q, cs => if x = 23 ∨ bdI x < le then (x :: Q, cs) else wdP le Q (cs ++ [(x, 0, 0)])
noncomputable def opS : List Int32 → Nat
  | [] => 0
  | x :: Q => opS Q + (if x = 20 ∨ x = 23 then 1 else 0)
section RST
variable {e n : Nat} {M M' : Mem} {v : Option Value} {B : Nat → Int32} {s : Sg} {P : List Int32}
theorem PLa.frm {F : List (Nat × Nat)} {W : List Nat} (hF : FB F W M M') (h : 648 ∉ W) : ∀ {P : List Int32}, PLa M P → PLa M' P
  | [], _ => trivial
  | _ :: _, hp => ⟨by rw [hF.rn h]; exact hp.1, PLa.frm hF h hp.2⟩
theorem SC.frm {F : List (Nat × Nat)} {W : List Nat} {cs : List Cdq} (hF : FB F W M M') (h : SC M cs) (h0 : (633, 19) ∉ F) (h1 : 645 ∉ W) (h2 : 646 ∉ W) (h3 : 647 ∉ W) : SC M' cs := ⟨by rw [hF.fi h0]; exact h.1, fun j c hj => by rw [hF.rn h1, hF.rn h2, hF.rn h3]; exact h.2 j c hj⟩
theorem RTk.frm {F : List (Nat × Nat)} {W : List Nat} {ts : List Tok} (hF : FB F W M M') (h : RTk B n M ts) (h0 : (633, 4) ∉ F) (h1 : (633, 22) ∉ F) (h2 : (633, 23) ∉ F) (h3 : (633, 25) ∉ F) (h4 : (633, 31) ∉ F) : RTk B n M' ts := by
  cases ts with
  | nil => exact h
  | cons t r =>
    unfold RTk at h ⊢
    dsimp only at h ⊢
    rw [hF.fi h0, hF.fi h1, hF.fi h2, hF.fi h3, hF.fl h4]
    exact h
/-- on to the next token -/
theorem RC.next (hn2 : n ≤ 440) (h : RC B n M s P) (h0 : (hdT s.1).1 ≠ 0) (h1 : (hdT s.1).1 ≠ 1) (H : Ev none e 162 0 [some (.ref 633), none, none, none] [] M v M' 0 0) : v = none ∧ FB fQ wQ M M' ∧ RC B n M' (s.1.tail, s.2.1, s.2.2) P := by
  obtain ⟨a1, a2, a3, a4, a5, a6, a7, a8, a9, a10, a11⟩ := h
  obtain ⟨r, hr⟩ := a5.ne
  have h4 := a4
  rw [hr] at h4
  obtain ⟨b1, b2⟩ := h4
  rcases b2 with ⟨b2, _⟩ | ⟨b2, _⟩ | ⟨_, _, b3, b4, b5⟩
  · exact absurd b2 h0
  · exact absurd b2 h1
  obtain ⟨g1, g2, g3, g4⟩ := nx_all hn2 (n - (hdT s.1).2.2.1) _ M (Nat.le_refl _) b3 a1 a3 b4 H
  have ht : s.1.tail = tlS (bR M) n (hdT s.1).2.2.1 := by
    rw [hr, a2]
    exact b5
  have hb : bR M' = bR M := g3.bR (by decide)
  refine ⟨g1, g3.more (by decide) (fun q hq => by cases hq), g2, hb.trans a2, by rw [g3.fi (by decide)]; exact a3, ?_, a5.tl h0 h1, fun t hm => a6 t (List.mem_of_mem_tail hm), by rw [g3.fi (by decide)]; exact a7, a8.frm g3 (by decide) List.not_mem_nil List.not_mem_nil List.not_mem_nil, by rw [g3.fi (by decide)]; exact a9, a10.frm g3 List.not_mem_nil, by rw [g3.fi (by decide)]; exact a11⟩
  show RTk B n M' s.1.tail
  rw [ht, ← a2]
  exact g4
/-- a fault -/
theorem RC.bad {k : Int32} (h : RC B n M s P) (H : Ev none e 163 0 [some (.ref 633), some (.int k)] [] M v M' 0 0) : v = some (.int 0) ∧ SQ M' ∧ FB fQ wQ M M' ∧ zI M' 633 26 = k ∧ (zI M' 633 27).toInt = ((hdT s.1).2.1 : Int) := by
  obtain ⟨a1, a2, a3, a4, a5, a6, a7, a8, a9, a10, a11⟩ := h
  obtain ⟨r, hr⟩ := a5.ne
  rw [hr] at a4
  obtain ⟨g1, g2⟩ := g_163 a1 H
  have S1 : SQ M' := by
    rw [g2]
    exact X_163_sx a1
  unfold X_163 at g2
  subst g2
  refine ⟨g1, S1, (FB.wF (by decide)).trans (FB.wF (by decide)), ?_, ?_⟩
  · rw [fI_wF_ne (fun q => absurd q.2 (by decide)), fI_wF_eq a1.1 qa_633 qi_61_26]
  · rw [fI_wF_eq a1.kf.1 qa_633 qi_61_27]
    exact a4.1
/-- a step written -/
theorem RC.write {x y z : Int32} (h : RC B n M s P) (H : Ev none e 174 0 [some (.ref 633), some (.int x), some (.int y), some (.int z)] [] M v M' 0 0) : v = none ∧ FB fQ wQ M M' ∧ RC B n M' (s.1, s.2.1, s.2.2 ++ [(x, y, z)]) P := by
  obtain ⟨a1, a2, a3, a4, a5, a6, a7, a8, a9, a10, a11⟩ := h
  obtain ⟨⟨w1, w2⟩, -, -, g1, g2⟩ := wt_0 a1 H
  obtain ⟨c1, c2⟩ := a8
  have o1 : (1400 : Int32).toInt = 1400 := rfl
  have hlen : s.2.2.length < 200 := by
    have hb := i32_any (zI M 633 19)
    by_cases hq : (zI M 633 19).toInt ≤ 2147482247
    · rw [i32_add (by omega) (by omega)] at w2
      omega
    · exfalso
      have e1 : (1400 + zI M 633 19).toInt = Int.bmod (1400 + (zI M 633 19).toInt) 4294967296 := by rw [Int32.toInt_add]; rfl
      have e2 : Int.bmod (1400 + (zI M 633 19).toInt) 4294967296 = 1400 + (zI M 633 19).toInt - 4294967296 := by
        unfold Int.bmod
        dsimp only
        split <;> omega
      omega
  have hk : (1400 + zI M 633 19).toNatClampNeg = 1400 + s.2.2.length := cl_n (by rw [i32_add (by omega) (by omega)]; omega)
  rw [hk] at g2
  have s1 : SQ (wI M 645 (1400 + s.2.2.length) x) := a1.ki
  have s2 : SQ (wI (wI M 645 (1400 + s.2.2.length) x) 646 (1400 + s.2.2.length) y) := s1.ki
  have s3 : SQ (wI (wI (wI M 645 (1400 + s.2.2.length) x) 646 (1400 + s.2.2.length) y) 647 (1400 + s.2.2.length) z) := s2.ki
  have F1 : FB [(633, 19)] [645, 646, 647] M M' := by
    rw [g2]
    exact (((FB.wI (by decide)).trans (FB.wI (by decide))).trans (FB.wI (by decide))).trans (FB.wF (by decide))
  refine ⟨g1, F1.more (by decide) (by decide), by rw [g2]; exact s3.kf, (F1.bR (by decide)).trans a2, by rw [F1.fi (by decide)]; exact a3, a4.frm F1 (by decide) (by decide) (by decide) (by decide) (by decide), a5, a6, by rw [F1.fi (by decide)]; exact a7, ⟨?_, fun j c hj => ?_⟩, by rw [F1.fi (by decide)]; exact a9, a10.frm F1 (by decide), by rw [F1.fi (by decide)]; exact a11⟩
  · rw [g2, fI_wF_eq s3.1 qa_633 qi_61_19, i32_p1 (by omega), List.length_append]
    show _ = ((s.2.2.length + 1 : Nat) : Int)
    omega
  · rw [g2, rN_wF, rN_wF, rN_wF]
    by_cases hj2 : j = s.2.2.length
    · subst hj2
      rw [List.getElem?_append_right (Nat.le_refl _), Nat.sub_self] at hj
      cases hj
      refine ⟨?_, ?_, ?_⟩
      · rw [rN_wI_ne (fun q => absurd q.1 (by decide)), rN_wI_ne (fun q => absurd q.1 (by decide)), rN_wI_eq (by rw [(a1.1.row qa_645 qw_73).2]; omega)]
      · rw [rN_wI_ne (fun q => absurd q.1 (by decide)), rN_wI_eq (by rw [(s1.1.row qa_646 qw_74).2]; omega)]
      · rw [rN_wI_eq (by rw [(s2.1.row qa_647 qw_75).2]; omega)]
    · have hlt : j < s.2.2.length := by
        have h1 := (List.getElem?_eq_some_iff.mp hj).1
        rw [List.length_append] at h1
        have h1 : j < s.2.2.length + 1 := h1
        omega
      rw [List.getElem?_append_left hlt] at hj
      have hne : 1400 + j ≠ 1400 + s.2.2.length := by omega
      rw [rN_wI_ne (fun q => hne q.2), rN_wI_ne (fun q => hne q.2), rN_wI_ne (fun q => hne q.2), rN_wI_ne (fun q => hne q.2), rN_wI_ne (fun q => hne q.2), rN_wI_ne (fun q => hne q.2), rN_wI_ne (fun q => hne q.2), rN_wI_ne (fun q => hne q.2), rN_wI_ne (fun q => hne q.2)]
      exact c2 j c hj
/-- one off the pile -/
theorem RC.pop {x : Int32} (h : RC B n M s (x :: P)) : rI M 648 (zI M 633 20 - 1) = x ∧ FB fQ wQ M (wF M 633 20 (zI M 633 20 - 1)) ∧ RC B n (wF M 633 20 (zI M 633 20 - 1)) s P := by
  obtain ⟨a1, a2, a3, a4, a5, a6, a7, a8, a9, a10, a11⟩ := h
  rw [List.length_cons] at a9
  have e1 : (zI M 633 20 - 1).toInt = (P.length : Int) := by rw [i32_m1 (by omega)]; omega
  have F1 : FB [(633, 20)] [] M (wF M 633 20 (zI M 633 20 - 1)) := FB.wF (by decide)
  refine ⟨by rw [rI_n e1]; exact a10.1, F1.more (by decide) (by decide), a1.kf, (F1.bR (by decide)).trans a2, by rw [F1.fi (by decide)]; exact a3, a4.frm F1 (by decide) (by decide) (by decide) (by decide) (by decide), a5, a6, by rw [F1.fi (by decide)]; exact a7, a8.frm F1 (by decide) (by decide) (by decide) (by decide), ?_, a10.2.frm F1 (by decide), by rw [F1.fi (by decide)]; exact a11⟩
  rw [fI_wF_eq a1.1 qa_633 qi_61_20]
  exact e1
/-- one onto the pile -/
theorem RC.push {x : Int32} (h : RC B n M s P) (hl : (zI M 633 20).toInt < 100) : FB fQ wQ M (wF (wI M 648 ((zI M 633 20).toNatClampNeg) x) 633 20 (zI M 633 20 + 1)) ∧ RC B n (wF (wI M 648 ((zI M 633 20).toNatClampNeg) x) 633 20 (zI M 633 20 + 1)) s (x :: P) := by
  obtain ⟨a1, a2, a3, a4, a5, a6, a7, a8, a9, a10, a11⟩ := h
  have hk : (zI M 633 20).toNatClampNeg = P.length := cl_n a9
  rw [hk]
  have F1 : FB [(633, 20)] [648] M (wF (wI M 648 P.length x) 633 20 (zI M 633 20 + 1)) := (FB.wI (by decide)).trans (FB.wF (by decide))
  refine ⟨F1.more (by decide) (by decide), a1.ki.kf, (F1.bR (by decide)).trans a2, by rw [F1.fi (by decide)]; exact a3, a4.frm F1 (by decide) (by decide) (by decide) (by decide) (by decide), a5, a6, by rw [F1.fi (by decide)]; exact a7, a8.frm F1 (by decide) (by decide) (by decide) (by decide), ?_, ⟨?_, ?_⟩, by rw [F1.fi (by decide)]; exact a11⟩
  · rw [fI_wF_eq a1.ki.1 qa_633 qi_61_20, i32_p1 (by omega), List.length_cons]
    omega
  · rw [rN_wF, rN_wI_eq (by rw [(a1.1.row qa_648 qw_76).2]; omega)]
  · have hq : ∀ (Q : List Int32), Q.length ≤ P.length → PLa M Q → PLa (wF (wI M 648 P.length x) 633 20 (zI M 633 20 + 1)) Q := by
      intro Q
      induction Q with
      | nil => intro _ _; trivial
      | cons y Q ih =>
        intro hl2 hp
        rw [List.length_cons] at hl2
        refine ⟨?_, ih (by omega) hp.2⟩
        rw [rN_wF, rN_wI_ne (fun q => by omega)]
        exact hp.1
    exact hq P (Nat.le_refl _) a10
/-- the binding ones off the pile -/
theorem RC.wdown {le : Int32} : ∀ (P : List Int32) (s : Sg) (M : Mem), RC B n M s P → Ev none e 175 0 [some (.ref 633), some (.int le)] [] M v M' 0 0 → v = none ∧ FB fQ wQ M M' ∧ RC B n M' (s.1, s.2.1, (wdP le P s.2.2).2) (wdP le P s.2.2).1 := by
  intro P
  have z0 : (0 : Int32).toInt = 0 := rfl
  induction P with
  | nil =>
    intro s M h H
    have h9 := h.2.2.2.2.2.2.2.2.1
    rcases wdq_0 h.1 H with ⟨_, g1, rfl⟩ | ⟨q, _⟩ | ⟨q, _⟩ | ⟨q, _⟩
    · exact ⟨g1, FB.refl _, h⟩
    all_goals exact absurd (Int32.le_iff_toInt_le.mpr (by rw [h9, z0]; exact Int.le_refl _)) q
  | cons x P ih =>
    intro s M h H
    have h9 := h.2.2.2.2.2.2.2.2.1
    rw [List.length_cons] at h9
    obtain ⟨t1, F1, R1⟩ := h.pop
    have hb : G_176 M x = bdI x := rfl
    unfold wdP
    rcases wdq_0 h.1 H with ⟨q, _⟩ | ⟨_, q, g1, rfl⟩ | ⟨_, q, q2, g1, rfl⟩ | ⟨_, q, q2, e1, v1, M1, he, H1, H⟩
    · rw [Int32.le_iff_toInt_le] at q
      omega
    · rw [t1] at q
      rw [if_pos (Or.inl q)]
      exact ⟨g1, FB.refl _, h⟩
    · rw [t1, hb] at q2
      rw [if_pos (Or.inr q2)]
      exact ⟨g1, FB.refl _, h⟩
    · rw [t1] at q q2
      rw [hb] at q2
      rw [if_neg (fun r => r.elim q q2)]
      rw [t1] at H1
      obtain ⟨rfl, F2, R2⟩ := R1.write H1
      have H := wdq_66 R2.1 H
      obtain ⟨g1, F3, R3⟩ := ih _ _ R2 H
      exact ⟨g1, (F1.trans F2).trans F3, R3⟩
theorem opS_le : ∀ P : List Int32, opS P ≤ P.length
  | [] => Nat.le_refl _
  | x :: Q => by
    have := opS_le Q
    unfold opS
    rw [List.length_cons]
    split <;> omega
theorem PLa.sfx : ∀ {P : List Int32}, PLa M P → ∀ m, m ≤ P.length → ∃ Q, Q.length = m ∧ PLa M Q ∧ ∃ L, P = L ++ Q := by
  intro P
  induction P with
  | nil =>
    intro h m hm
    exact ⟨[], by cases hm; rfl, h, [], rfl⟩
  | cons x P ih =>
    intro h m hm
    by_cases hq : m = (x :: P).length
    · exact ⟨x :: P, hq.symm, h, [], rfl⟩
    · rw [List.length_cons] at hm hq
      obtain ⟨Q, q1, q2, L, rfl⟩ := ih h.2 m (by omega)
      exact ⟨Q, q1, q2, x :: L, rfl⟩
/-- how many are not closed -/
theorem op_loop (h : RC B n M s P) : ∀ (j : Nat) (Q : List Int32) (nn k : Int32), (∃ L, P = L ++ Q) → Q.length + j = P.length → k.toInt = (Q.length : Int) → nn.toInt = (opS Q : Int) → Ev none e 177 4 [some (.ref 633), some (.int nn), some (.int k)] [] M v M' 0 0 → (∃ y : Int32, y.toInt = (opS P : Int) ∧ v = some (.int y)) ∧ M' = M := by
  intro j
  have h9 := h.2.2.2.2.2.2.2.2.1
  have o1 : (1 : Int32).toInt = 1 := rfl
  induction j with
  | zero =>
    intro Q nn k hQ hj hk hnn H
    obtain ⟨L, rfl⟩ := hQ
    rw [List.length_append] at hj
    have hL : L = [] := List.length_eq_zero_iff.mp (by omega)
    subst hL
    rcases op_4 h.1 H with ⟨_, g1, g2⟩ | ⟨q, _⟩ | ⟨q, _⟩ | ⟨q, _⟩
    · exact ⟨⟨nn, hnn, g1⟩, g2⟩
    all_goals exact absurd (Int32.le_iff_toInt_le.mpr (by rw [h9, hk]; exact Int.le_refl _)) q
  | succ j ih =>
    intro Q nn k hQ hj hk hnn H
    obtain ⟨Q2, q1, q2, L2, q3⟩ := h.2.2.2.2.2.2.2.2.2.1.sfx (Q.length + 1) (by omega)
    obtain ⟨L, hL⟩ := hQ
    cases Q2 with
    | nil => cases q1
    | cons x Q3 =>
      rw [List.length_cons] at q1
      have hQQ : Q3 = Q := by
        rw [hL] at q3
        have e1 : L ++ Q = (L2 ++ [x]) ++ Q3 := by rw [q3, List.append_assoc]; rfl
        exact ((List.append_inj' e1 (by omega)).2).symm
      subst hQQ
      have hkx : rI M 648 k = x := by rw [rI_n hk]; exact q2.1
      have hk1 : (k + 1).toInt = (((x :: Q3).length : Nat) : Int) := by rw [i32_p1 (by have := i32_any (zI M 633 20); omega), List.length_cons]; omega
      have hop := opS_le Q3
      have hnn1 : (nn + 1).toInt = (opS Q3 : Int) + 1 := by rw [i32_p1 (by have := i32_any (zI M 633 20); omega)]; omega
      rcases op_4 h.1 H with ⟨q, _⟩ | ⟨_, g1, H⟩ | ⟨_, g1, g2, H⟩ | ⟨_, g1, g2, H⟩
      · rw [Int32.le_iff_toInt_le] at q
        omega
      · rw [hkx] at g1
        refine ih (x :: Q3) _ _ ⟨L2, q3⟩ (by rw [List.length_cons]; omega) hk1 ?_ H
        rw [hnn1]
        show _ = ((opS Q3 + (if x = 20 ∨ x = 23 then 1 else 0) : Nat) : Int)
        rw [if_pos (Or.inl g1)]
        rfl
      · rw [hkx] at g2
        refine ih (x :: Q3) _ _ ⟨L2, q3⟩ (by rw [List.length_cons]; omega) hk1 ?_ H
        rw [hnn1]
        show _ = ((opS Q3 + (if x = 20 ∨ x = 23 then 1 else 0) : Nat) : Int)
        rw [if_pos (Or.inr g2)]
        rfl
      · rw [hkx] at g1 g2
        refine ih (x :: Q3) _ _ ⟨L2, q3⟩ (by rw [List.length_cons]; omega) hk1 ?_ H
        rw [Int32.add_zero, hnn]
        show _ = ((opS Q3 + (if x = 20 ∨ x = 23 then 1 else 0) : Nat) : Int)
        rw [if_neg (fun q => q.elim g1 g2)]
        rfl
theorem RC.opn (h : RC B n M s P) (H : Ev none e 177 0 [some (.ref 633), none, none] [] M v M' 0 0) : (∃ y : Int32, y.toInt = (opS P : Int) ∧ v = some (.int y)) ∧ M' = M := by
  have H := op_0 h.1 H
  exact op_loop h P.length [] 0 0 ⟨P, (List.append_nil P).symm⟩ (by rw [List.length_nil]; omega) rfl rfl H
/-- whether one is not closed -/
theorem ioq_loop (h : RC B n M s P) : ∀ (j : Nat) (Q : List Int32) (k : Int32), (∃ L, P = L ++ Q) → Q.length + j = P.length → k.toInt = (Q.length : Int) → (∀ x ∈ Q, x ≠ 23) → Ev none e 178 2 [some (.ref 633), some (.int k)] [] M v M' 0 0 → ((v = some (.int 1) ∧ 23 ∈ P) ∨ (v = some (.int 0) ∧ 23 ∉ P)) ∧ M' = M := by
  intro j
  have h9 := h.2.2.2.2.2.2.2.2.1
  induction j with
  | zero =>
    intro Q k hQ hj hk hno H
    obtain ⟨L, rfl⟩ := hQ
    rw [List.length_append] at hj
    have hL : L = [] := List.length_eq_zero_iff.mp (by omega)
    subst hL
    rcases ioq_2 h.1 H with ⟨_, g1, g2⟩ | ⟨q, _⟩ | ⟨q, _⟩
    · exact ⟨Or.inr ⟨g1, fun q => hno 23 q rfl⟩, g2⟩
    all_goals exact absurd (Int32.le_iff_toInt_le.mpr (by rw [h9, hk]; exact Int.le_refl _)) q
  | succ j ih =>
    intro Q k hQ hj hk hno H
    obtain ⟨Q2, q1, q2, L2, q3⟩ := h.2.2.2.2.2.2.2.2.2.1.sfx (Q.length + 1) (by omega)
    obtain ⟨L, hL⟩ := hQ
    cases Q2 with
    | nil => cases q1
    | cons x Q3 =>
      rw [List.length_cons] at q1
      have hQQ : Q3 = Q := by
        rw [hL] at q3
        have e1 : L ++ Q = (L2 ++ [x]) ++ Q3 := by rw [q3, List.append_assoc]; rfl
        exact ((List.append_inj' e1 (by omega)).2).symm
      subst hQQ
      have hkx : rI M 648 k = x := by rw [rI_n hk]; exact q2.1
      have hk1 : (k + 1).toInt = (((x :: Q3).length : Nat) : Int) := by rw [i32_p1 (by have := i32_any (zI M 633 20); omega), List.length_cons]; omega
      rcases ioq_2 h.1 H with ⟨q, _⟩ | ⟨_, g1, g2, g3⟩ | ⟨_, g1, H⟩
      · rw [Int32.le_iff_toInt_le] at q
        omega
      · rw [hkx] at g1
        refine ⟨Or.inl ⟨g2, ?_⟩, g3⟩
        rw [q3, g1]
        exact List.mem_append_right _ List.mem_cons_self
      · rw [hkx] at g1
        refine ih (x :: Q3) _ ⟨L2, q3⟩ (by rw [List.length_cons]; omega) hk1 (fun y hy => ?_) H
        rcases List.mem_cons.mp hy with rfl | hy
        · exact g1
        · exact hno y hy
theorem RC.isOpen (h : RC B n M s P) (H : Ev none e 178 0 [some (.ref 633), none] [] M v M' 0 0) : ((v = some (.int 1) ∧ 23 ∈ P) ∨ (v = some (.int 0) ∧ 23 ∉ P)) ∧ M' = M := by
  have H := ioq_0 h.1 H
  exact ioq_loop h P.length [] 0 ⟨P, (List.append_nil P).symm⟩ (by rw [List.length_nil]; omega) rfl (fun x hx => by cases hx) H
end RST
/-! THE REFERENCE'S WORDS AND SIGNS -/
theorem lg0 {x y : Int64} : lg_cmp x y = 0 ↔ x = y := by
  unfold lg_cmp
  by_cases h : x > y
  · rw [if_pos h]
    refine ⟨fun q => absurd q (by decide), fun q => ?_⟩
    rw [q] at h
    exact absurd h (Int64.lt_irrefl)
  · rw [if_neg h]
    by_cases h2 : x = y
    · rw [if_pos h2]
      exact ⟨fun _ => h2, fun _ => rfl⟩
    · rw [if_neg h2]
      exact ⟨fun q => absurd q (by decide), fun q => absurd q h2⟩
/-- words with what they stand for -/
noncomputable def chP (x : Int64) : List (Int64 × Int32) → Int32
  | [] => -1
  | (C, i) :: r => if lg_cmp x C = 0 then i else chP x r
noncomputable def ixP (w : List Int32) : List (List Int32 × Int32) → Int32
  | [] => -1
  | (u, i) :: r => if w = u then i else ixP w r
theorem chP_ok {w : List Int32} (hw : okW w) : ∀ (l : List (List Int32 × Int32)), (∀ q ∈ l, okW q.1) → chP (pkF w) (l.map (fun q => (pkF q.1, q.2))) = ixP w l := by
  intro l
  induction l with
  | nil => intro _; rfl
  | cons q r ih =>
    intro h
    obtain ⟨u, i⟩ := q
    show (if lg_cmp (pkF w) (pkF u) = 0 then i else chP (pkF w) (r.map (fun q => (pkF q.1, q.2)))) = if w = u then i else ixP w r
    rw [ih (fun q hq => h q (List.mem_cons_of_mem _ hq))]
    have hu := h (u, i) List.mem_cons_self
    congr 1
    exact propext (lg0.trans ⟨fun q => pkq_inj hw hu q, fun q => by rw [q]⟩)
theorem ixP_nil : ∀ (l : List (List Int32 × Int32)), (∀ q ∈ l, q.1 ≠ []) → ixP [] l = -1 := by
  intro l
  induction l with
  | nil => intro _; rfl
  | cons q r ih =>
    intro h
    obtain ⟨u, i⟩ := q
    show (if [] = u then i else ixP [] r) = -1
    rw [if_neg (fun x => h (u, i) List.mem_cons_self x.symm)]
    exact ih (fun q hq => h q (List.mem_cons_of_mem _ hq))
def okBw (w : List Int32) : Bool := decide (w.length ≤ 6) && (decide (w ≠ []) && w.all (fun c => decide (1 ≤ c.toInt) && decide (c.toInt ≤ 255)))
theorem okBw_V {w : List Int32} (h : okBw w = true) : okW w ∧ w ≠ [] := by
  obtain ⟨h1, h2⟩ := and_t h
  obtain ⟨h2, h3⟩ := and_t h2
  refine ⟨⟨of_decide_eq_true h1, fun c hc => ?_⟩, of_decide_eq_true h2⟩
  obtain ⟨a, b⟩ := and_t (List.all_eq_true.mp h3 c hc)
  exact ⟨of_decide_eq_true a, of_decide_eq_true b⟩
section WRD
variable {n : Nat} {M : Mem} {B : Nat → Int32} {ts : List Tok}
/-- what the reference holds of its token -/
theorem RTk.tok (h : RTk B n M ts) (hg : gdT B ts) : ((hdT ts).1 = 2 ∧ zI M 633 22 = 1 ∧ okW (wdS B (hdT ts)) ∧ fL M 633 31 = pkF (wdS B (hdT ts))) ∨ ((hdT ts).1 ≠ 2 ∧ zI M 633 22 ≠ 1 ∧ wdS B (hdT ts) = []) := by
  cases ts with
  | nil => exact h.elim
  | cons t r =>
    obtain ⟨_, h⟩ := h
    show (t.1 = 2 ∧ _) ∨ (t.1 ≠ 2 ∧ _)
    have nw : t.1 ≠ 2 → wdS B t = [] := fun q => by
      unfold wdS
      rw [if_neg q]
    rcases h with ⟨h1, h2⟩ | ⟨h1, h2⟩ | ⟨_, h1, _⟩
    · have q : t.1 ≠ 2 := by rw [h1]; decide
      refine Or.inr ⟨q, ?_, nw q⟩
      rw [h2]
      split <;> decide
    · have q : t.1 ≠ 2 := by rw [h1]; decide
      refine Or.inr ⟨q, ?_, nw q⟩
      rw [h2]
      decide
    · rcases h1 with ⟨q, h2, h3, h4⟩ | ⟨h1, h2, _⟩ | ⟨h1, h2, _⟩
      · have hw : wdS B t = slS B t.2.1 (t.2.2.1 - t.2.1) := by
          unfold wdS
          rw [if_pos q]
        refine Or.inl ⟨q, h2, ?_, ?_⟩
        · show okW (wdS B t)
          rw [hw]
          exact (hg t List.mem_cons_self).1 q h3
        · show fL M 633 31 = pkF (wdS B t)
          rw [hw]
          exact h4
      · have q : t.1 ≠ 2 := by rw [h1]; decide
        refine Or.inr ⟨q, ?_, nw q⟩
        rw [h2]
        decide
      · have q : t.1 ≠ 2 := fun x => by rw [x] at h1; revert h1; decide
        refine Or.inr ⟨q, ?_, nw q⟩
        rw [h2]
        decide
theorem RTk.ch (h : RTk B n M ts) (hg : gdT B ts) (l : List (List Int32 × Int32)) (hl : ∀ q ∈ l, okBw q.1 = true) : (if zI M 633 22 = 1 then chP (fL M 633 31) (l.map (fun q => (pkF q.1, q.2))) else -1) = ixP (wdS B (hdT ts)) l := by
  rcases h.tok hg with ⟨_, h2, h3, h4⟩ | ⟨_, h2, h3⟩
  · rw [if_pos h2, h4]
    exact chP_ok h3 l (fun q hq => (okBw_V (hl q hq)).1)
  · rw [if_neg h2, h3]
    exact (ixP_nil l (fun q hq => (okBw_V (hl q hq)).2)).symm
theorem RTk.word {u : List Int32} {C : Int64} (h : RTk B n M ts) (hg : gdT B ts) (hu : okBw u = true) (hC : pkF u = C) : (G_164 M C = 1 ∧ wdS B (hdT ts) = u) ∨ (G_164 M C = 0 ∧ wdS B (hdT ts) ≠ u) := by
  unfold G_164
  obtain ⟨u1, u2⟩ := okBw_V hu
  rcases h.tok hg with ⟨_, h2, h3, h4⟩ | ⟨_, h2, h3⟩
  · rw [if_pos h2, h4, ← hC]
    by_cases q : wdS B (hdT ts) = u
    · rw [if_pos (lg0.mpr (by rw [q]))]
      exact Or.inl ⟨rfl, q⟩
    · rw [if_neg (fun x => q (pkq_inj h3 u1 (lg0.mp x)))]
      exact Or.inr ⟨rfl, q⟩
  · rw [if_neg h2, h3]
    exact Or.inr ⟨rfl, fun q => u2 q.symm⟩
theorem RTk.sign {c : Int32} (h : RTk B n M ts) (hc : c = 59 ∨ c = 40 ∨ c = 41 ∨ c = 60 ∨ c = 61 ∨ c = 62) : (G_165 M c = 1 ∧ (hdT ts).1 = c ∧ zI M 633 25 = c) ∨ (G_165 M c = 0 ∧ (hdT ts).1 ≠ c) := by
  unfold G_165
  cases ts with
  | nil => exact h.elim
  | cons t r =>
    obtain ⟨_, h⟩ := h
    show (_ ∧ t.1 = c ∧ _) ∨ (_ ∧ t.1 ≠ c)
    have no : zI M 633 22 ≠ 3 → t.1 ≠ c → ((if zI M 633 22 = 3 then (if zI M 633 25 = c then (1 : Int32) else 0) else 0) = 1 ∧ t.1 = c ∧ zI M 633 25 = c) ∨ ((if zI M 633 22 = 3 then (if zI M 633 25 = c then (1 : Int32) else 0) else 0) = 0 ∧ t.1 ≠ c) := fun q1 q2 => Or.inr ⟨by rw [if_neg q1], q2⟩
    have ne : ∀ x : Int32, x = 0 ∨ x = 1 ∨ x = 2 ∨ x = 3 → t.1 = x → t.1 ≠ c := fun x hx q q2 => by
      rw [q] at q2
      rw [← q2] at hc
      rcases hx with rfl | rfl | rfl | rfl <;> revert hc <;> decide
    rcases h with ⟨h1, h2⟩ | ⟨h1, h2⟩ | ⟨_, h1, _⟩
    · refine no ?_ (ne 0 (Or.inl rfl) h1)
      rw [h2]
      split <;> decide
    · exact no (by rw [h2]; decide) (ne 1 (Or.inr (Or.inl rfl)) h1)
    · rcases h1 with ⟨h1, h2, _⟩ | ⟨h1, h2, _⟩ | ⟨h1, h2, h3⟩
      · exact no (by rw [h2]; decide) (ne 2 (Or.inr (Or.inr (Or.inl rfl))) h1)
      · exact no (by rw [h2]; decide) (ne 3 (Or.inr (Or.inr (Or.inr rfl))) h1)
      · rw [if_pos h2, h3]
        by_cases q : t.1 = c
        · rw [if_pos q]
          exact Or.inl ⟨rfl, q, q⟩
        · rw [if_neg q]
          exact Or.inr ⟨rfl, q⟩
/-- a number -/
theorem RTk.num (h : RTk B n M ts) : (zI M 633 22 = 2 ∧ (hdT ts).1 = 3 ∧ zI M 633 25 = (hdT ts).2.2.2) ∨ (zI M 633 22 ≠ 2 ∧ (hdT ts).1 ≠ 3) := by
  cases ts with
  | nil => exact h.elim
  | cons t r =>
    obtain ⟨_, h⟩ := h
    show (_ ∧ t.1 = 3 ∧ _) ∨ (_ ∧ t.1 ≠ 3)
    rcases h with ⟨h1, h2⟩ | ⟨h1, h2⟩ | ⟨_, h1, _⟩
    · refine Or.inr ⟨?_, by rw [h1]; decide⟩
      rw [h2]
      split <;> decide
    · exact Or.inr ⟨by rw [h2]; decide, by rw [h1]; decide⟩
    · rcases h1 with ⟨h1, h2, _⟩ | ⟨h1, h2, h3⟩ | ⟨h1, h2, h3⟩
      · exact Or.inr ⟨by rw [h2]; decide, by rw [h1]; decide⟩
      · exact Or.inl ⟨h2, h1, h3⟩
      · refine Or.inr ⟨by rw [h2]; decide, fun x => ?_⟩
        rw [x] at h1
        revert h1
        decide
def atoL : List (List Int32 × Int32) := [([103, 114, 97, 115, 115], 0), ([103, 114, 97, 118, 101, 108], 1), ([98, 101, 100], 2), ([112, 97, 118, 101, 100], 3), ([115, 116, 101, 112, 115], 4), ([115, 105, 103, 110], 5), ([109, 117, 100, 100, 121], 6), ([119, 111, 114, 110], 7), ([119, 101, 97, 114], 8), ([119, 101, 116], 9), ([104, 101, 105, 103, 104, 116], 10), ([116, 114, 111, 100], 11)]
def notW : List Int32 := [110, 111, 116]
theorem pk_ato : atoL.map (fun q => (pkF q.1, q.2)) = [(444300620659, 0), (113740959081836, 1), (6448484, 2), (482671486308, 3), (495874044019, 4), (1936287598, 5), (470120948857, 6), (2003792494, 7), (2003132786, 8), (7824756, 9), (114784769370228, 10), (1953656676, 11)] := by decide +kernel
theorem ok_ato : ∀ q ∈ atoL, okBw q.1 = true := by decide +kernel
theorem RTk.atom (h : RTk B n M ts) (hg : gdT B ts) : G_173 M = ixP (wdS B (hdT ts)) atoL := by
  rw [← h.ch hg atoL ok_ato, pk_ato]
  rfl
/-- the ONES' words: what the class counts -/
theorem one_ix (w : List Int32) : ixF w oneW 0 = if w = notW then 12 else ixP w atoL := by
  by_cases h : w = notW
  · rw [if_pos h, h]
    decide +kernel
  · rw [if_neg h]
    show (if w = _ then (0 : Int32) else if w = _ then (0 + 1 : Int32) else if w = _ then (0 + 1 + 1 : Int32) else if w = _ then (0 + 1 + 1 + 1 : Int32) else if w = _ then (0 + 1 + 1 + 1 + 1 : Int32) else if w = _ then (0 + 1 + 1 + 1 + 1 + 1 : Int32) else if w = _ then (0 + 1 + 1 + 1 + 1 + 1 + 1 : Int32) else if w = _ then (0 + 1 + 1 + 1 + 1 + 1 + 1 + 1 : Int32) else if w = _ then (0 + 1 + 1 + 1 + 1 + 1 + 1 + 1 + 1 : Int32) else if w = _ then (0 + 1 + 1 + 1 + 1 + 1 + 1 + 1 + 1 + 1 : Int32) else if w = _ then (0 + 1 + 1 + 1 + 1 + 1 + 1 + 1 + 1 + 1 + 1 : Int32) else if w = _ then (0 + 1 + 1 + 1 + 1 + 1 + 1 + 1 + 1 + 1 + 1 + 1 : Int32) else if w = notW then _ else (-1 : Int32)) = _
    rw [if_neg h]
    rfl
theorem ixP_rng {w : List Int32} : ∀ (l : List (List Int32 × Int32)), (∀ q ∈ l, (0 : Int32) ≤ q.2) → (ixP w l = -1) ∨ (0 : Int32) ≤ ixP w l := by
  intro l
  induction l with
  | nil => intro _; exact Or.inl rfl
  | cons q r ih =>
    intro h
    obtain ⟨u, i⟩ := q
    show (if w = u then i else ixP w r) = -1 ∨ (0 : Int32) ≤ if w = u then i else ixP w r
    by_cases hq : w = u
    · rw [if_pos hq]
      exact Or.inr (h (u, i) List.mem_cons_self)
    · rw [if_neg hq]
      exact ih (fun q hq => h q (List.mem_cons_of_mem _ hq))
end WRD
/-! THE REFERENCE'S cond and one tell what the parser tells -/
section MAC
variable {n : Nat} {B : Nat → Int32}
/-- an ONE is to come -/
def EXP (d : Nat) (M M' : Mem) (v : Option Value) : Prop := ∃ (c0 c1 c2 c3 v1 : Option Value) (M1 : Mem), Ev none d 180 0 [some (.ref 633), c1, c2, c3] [] M v1 M1 0 0 ∧ Ev none (d + 1) 179 9 [some (.ref 633), c0] (v1.toList ++ []) M1 v M' 0 0
/-- an ONE is behind -/
def BST (d : Nat) (M M' : Mem) (v : Option Value) : Prop := ∃ c0 : Option Value, Ev none (d + 1) 179 14 [some (.ref 633), c0] [] M v M' 0 0
def FLT (M M' : Mem) (v : Option Value) (f : Int32 × Nat) : Prop := v = some (.int 0) ∧ SQ M' ∧ FB fQ wQ M M' ∧ zI M' 633 26 = f.1 ∧ (zI M' 633 27).toInt = (f.2 : Int)
theorem FLT.pre {M M1 M' : Mem} {v : Option Value} {f : Int32 × Nat} (h : FB fQ wQ M M1) (h2 : FLT M1 M' v f) : FLT M M' v f := ⟨h2.1, h2.2.1, h.trans h2.2.2.1, h2.2.2.2⟩
/-- ops that wait, their steps -/
def opsC (pend : List Int32) : List Cdq := pend.map (fun x => (x, 0, 0))
theorem wdP_1 {P : List Int32} (hP : P = [] ∨ ∃ Q, P = 23 :: Q) : ∀ (pend : List Int32) (cs : List Cdq), (∀ x ∈ pend, x = 21 ∨ x = 22) → wdP 1 (pend ++ P) cs = (P, cs ++ opsC pend) := by
  intro pend
  induction pend with
  | nil =>
    intro cs _
    rcases hP with rfl | ⟨Q, rfl⟩
    · show ([], cs) = ([], cs ++ [])
      rw [List.append_nil]
    · show (if (23 : Int32) = 23 ∨ bdI 23 < 1 then ((23 : Int32) :: Q, cs) else _) = _
      rw [if_pos (Or.inl rfl)]
      show _ = (_, cs ++ [])
      rw [List.append_nil]
  | cons x pend ih =>
    intro cs h
    show (if x = 23 ∨ bdI x < 1 then (x :: (pend ++ P), cs) else wdP 1 (pend ++ P) (cs ++ [(x, 0, 0)])) = _
    have hx : ¬ (x = 23 ∨ bdI x < 1) := by
      rcases h x List.mem_cons_self with rfl | rfl <;> decide
    rw [if_neg hx, ih _ (fun y hy => h y (List.mem_cons_of_mem _ hy)), List.append_assoc]
    rfl
theorem wdP_3 {P : List Int32} (hP : P = [] ∨ ∃ x Q, P = x :: Q ∧ x ≠ 20) (cs : List Cdq) : wdP 3 P cs = (P, cs) := by
  rcases hP with rfl | ⟨x, Q, rfl, hx⟩
  · rfl
  · show (if x = 23 ∨ bdI x < 3 then (x :: Q, cs) else _) = _
    rw [if_pos]
    unfold bdI
    rw [if_neg hx]
    right
    split <;> decide
theorem wdP_not {P : List Int32} {cs : List Cdq} : wdP 3 (20 :: P) cs = wdP 3 P (cs ++ [(20, 0, 0)]) := by
  show (if (20 : Int32) = 23 ∨ bdI 20 < 3 then _ else wdP 3 P (cs ++ [(20, 0, 0)])) = _
  rw [if_neg (by decide)]
/-- what an ONE, ALL, COND of the parser is to the machine -/
def MOne (B : Nat → Int32) (n : Nat) (D : Nat → Prop) (O : Nat → Sg → PR) : Prop := ∀ (d dep : Nat) (s : Sg) (P : List Int32) (M M' : Mem) (v : Option Value), D dep → opS P + 1 = dep → dep ≤ 11 → RC B n M s P → s.2.1 ≤ 40 → EXP d M M' v → match O dep s with
  | .inr f => FLT M M' v f
  | .inl s2 => ∃ M2, FB fQ wQ M M2 ∧ RC B n M2 (s2.1, s2.2.1, (wdP 3 P s2.2.2).2) (wdP 3 P s2.2.2).1 ∧ BST d M2 M' v
def MAll (B : Nat → Int32) (n : Nat) (D : Nat → Prop) (A : Nat → Sg → PR) : Prop := ∀ (d dep : Nat) (s : Sg) (P : List Int32) (M M' : Mem) (v : Option Value), D dep → opS P + 1 = dep → dep ≤ 11 → (P = [] ∨ (∃ Q, P = 23 :: Q) ∨ ∃ Q, P = 22 :: Q) → RC B n M s P → s.2.1 ≤ 40 → EXP d M M' v → match A dep s with
  | .inr f => FLT M M' v f
  | .inl s2 => ∃ M2 pend c, (∀ x ∈ pend, x = (21 : Int32)) ∧ s2.2.2 = c ++ opsC pend ∧ wdS B (hdT s2.1) ≠ andW ∧ FB fQ wQ M M2 ∧ RC B n M2 (s2.1, s2.2.1, c) (pend ++ P) ∧ BST d M2 M' v
def MCon (B : Nat → Int32) (n : Nat) (D : Nat → Prop) (C : Nat → Sg → PR) : Prop := ∀ (d dep : Nat) (s : Sg) (P : List Int32) (M M' : Mem) (v : Option Value), D dep → opS P + 1 = dep → dep ≤ 11 → (P = [] ∨ ∃ Q, P = 23 :: Q) → RC B n M s P → s.2.1 ≤ 40 → EXP d M M' v → match C dep s with
  | .inr f => FLT M M' v f
  | .inl s2 => ∃ M2 pend c, (∀ x ∈ pend, x = (21 : Int32) ∨ x = 22) ∧ s2.2.2 = c ++ opsC pend ∧ wdS B (hdT s2.1) ≠ andW ∧ wdS B (hdT s2.1) ≠ orW ∧ FB fQ wQ M M2 ∧ RC B n M2 (s2.1, s2.2.1, c) (pend ++ P) ∧ BST d M2 M' v
/-- a fault in an ONE ends it all -/
theorem bad_end {d : Nat} {M M0 M1 M' : Mem} {v v0 v1 : Option Value} {s : Sg} {P : List Int32} {k : Int32} {c0 : Option Value} {e : Nat} (hR : RC B n M s P) (H1 : Ev none e 163 0 [some (.ref 633), some (.int k)] [] M v0 M0 0 0) (hr : ∀ y : Int32, v0 = some (.int y) → SQ M0 → v1 = some (.int y) ∧ M1 = M0) (H : Ev none (d + 1) 179 9 [some (.ref 633), c0] (v1.toList ++ []) M1 v M' 0 0) : FLT M M' v (k, (hdT s.1).2.1) := by
  obtain ⟨rfl, S0, F0, r1, r2⟩ := hR.bad H1
  obtain ⟨rfl, rfl⟩ := hr 0 rfl S0
  rcases ceq_9 S0 H with ⟨_, h3, rfl⟩ | ⟨h3, _⟩
  · exact ⟨h3, S0, F0, r1, r2⟩
  · exact absurd rfl h3
/-- an ONE comes to its end -/
theorem one_end {d e : Nat} {M M1 M' : Mem} {v v1 v3 : Option Value} {M3 : Mem} {s : Sg} {P : List Int32} {c0 c3 : Option Value} {nt a : Int32} (hR : RC B n M s P) (H1 : Ev none e 175 0 [some (.ref 633), some (.int 3)] [] M v3 M3 0 0) (H2 : SQ M3 → v3 = none → v1 = some (.int 1) ∧ M1 = M3) (H : Ev none (d + 1) 179 9 [some (.ref 633), c0] (v1.toList ++ []) M1 v M' 0 0) : ∃ M2, FB fQ wQ M M2 ∧ RC B n M2 (s.1, s.2.1, (wdP 3 P s.2.2).2) (wdP 3 P s.2.2).1 ∧ BST d M2 M' v := by
  obtain ⟨rfl, F1, R1⟩ := RC.wdown P s M hR H1
  obtain ⟨rfl, rfl⟩ := H2 R1.1 rfl
  rcases ceq_9 R1.1 H with ⟨h3, _⟩ | ⟨_, H⟩
  · exact absurd h3 (by decide)
  · exact ⟨_, F1, R1, _, H⟩
theorem RC.ones {M : Mem} {s : Sg} {P : List Int32} (h : RC B n M s P) (h40 : s.2.1 < 40) : FB fQ wQ M (wF M 633 21 (zI M 633 21 + 1)) ∧ RC B n (wF M 633 21 (zI M 633 21 + 1)) (s.1, s.2.1 + 1, s.2.2) P := by
  obtain ⟨a1, a2, a3, a4, a5, a6, a7, a8, a9, a10, a11⟩ := h
  have F1 : FB [(633, 21)] [] M (wF M 633 21 (zI M 633 21 + 1)) := FB.wF (by decide)
  refine ⟨F1.more (by decide) (by decide), a1.kf, (F1.bR (by decide)).trans a2, by rw [F1.fi (by decide)]; exact a3, a4.frm F1 (by decide) (by decide) (by decide) (by decide) (by decide), a5, a6, ?_, a8.frm F1 (by decide) (by decide) (by decide) (by decide), by rw [F1.fi (by decide)]; exact a9, a10.frm F1 (by decide), by rw [F1.fi (by decide)]; exact a11⟩
  rw [fI_wF_eq a1.1 qa_633 qi_61_21, i32_p1 (by omega)]
  dsimp only
  omega
end MAC
/-! THE REFERENCE'S one -/
section MAD
variable {n : Nat} {B : Nat → Int32}
theorem opS_20 {P : List Int32} : opS (20 :: P) = opS P + 1 := rfl
theorem opS_23 {P : List Int32} : opS (23 :: P) = opS P + 1 := rfl
/-- behind the first token of an ONE -/
theorem one_74 {C O : Nat → Sg → PR} {DC DO : Nat → Prop} (hn2 : n ≤ 440) (hC : MCon B n DC C) (hO : MOne B n DO O) (gC : ∀ dep s s2, C dep s = .inl s2 → Gw s s2) (gO : ∀ dep s s2, O dep s = .inl s2 → Gw s s2) {d dep : Nat} {s : Sg} {P : List Int32} {M M1 M' : Mem} {v v1 : Option Value} {nt a : Int32} {c0 c3 : Option Value} (hDC : DC (dep + 1)) (hDO : DO (dep + 1)) (hdep : opS P + 1 = dep) (hd10 : dep ≤ 10) (hR : RC B n M s P) (h40 : s.2.1 ≤ 40) (hnt : (nt = 1 ∧ a = -1) ∨ (nt = 0 ∧ (a = -1 ∨ (0 ≤ a.toInt ∧ a.toInt ≤ 11)))) (H1 : Ev none d 180 74 [some (.ref 633), some (.int nt), some (.int a), c3] [] M v1 M1 0 0) (H : Ev none (d + 1) 179 9 [some (.ref 633), c0] (v1.toList ++ []) M1 v M' 0 0) : match (if nt = 0 ∧ a = -1 then (match C (dep + 1) s with
    | .inr f => .inr f
    | .inl s2 => if (hdT s2.1).1 ≠ 41 then .inr (1, (hdT s2.1).2.1) else .inl (s2.1.tail, s2.2.1, s2.2.2))
  else if nt = 1 then (match O (dep + 1) s with
    | .inr f => .inr f
    | .inl s2 => .inl (s2.1, s2.2.1, s2.2.2 ++ [(20, 0, 0)]))
  else if 8 ≤ a then cmpS a s
  else .inl (s.1, s.2.1, s.2.2 ++ [(a, 0, 0)]) : PR) with
  | .inr f => FLT M M' v f
  | .inl s2 => ∃ M2, FB fQ wQ M M2 ∧ RC B n M2 (s2.1, s2.2.1, (wdP 3 P s2.2.2).2) (wdP 3 P s2.2.2).1 ∧ BST d M2 M' v := by
  have z0 : (0 : Int32).toInt = 0 := rfl
  have hm1 : ∀ {x : Int32}, x = -1 → ¬ 0 ≤ x := fun {x} q => by rw [q]; decide
  -- the sign of a comparison
  have cmp : ∀ {e1 : Nat} {v3 : Option Value} {M3 : Mem} {c : Int32}, 0 ≤ a.toInt → 8 ≤ a → (c = 60 ∨ c = 61 ∨ c = 62) → (hdT s.1).1 = c → zI M 633 25 = c → Ev none e1 162 0 [some (.ref 633), none, none, none] [] M v3 M3 0 0 → Ev none d 180 169 [some (.ref 633), some (.int nt), some (.int a), some (.int (zI M 633 25))] (v3.toList ++ []) M3 v1 M1 0 0 → (match cmpS a s with
  | .inr f => FLT M M' v f
  | .inl s2 => ∃ M2, FB fQ wQ M M2 ∧ RC B n M2 (s2.1, s2.2.1, (wdP 3 P s2.2.2).2) (wdP 3 P s2.2.2).1 ∧ BST d M2 M' v) := by
    intro e1 v3 M3 c ha ha8 hc h1 h25 H3 H2
    have q0 : (hdT s.1).1 ≠ 0 := fun q => by rw [h1] at q; rw [q] at hc; revert hc; decide
    have q1 : (hdT s.1).1 ≠ 1 := fun q => by rw [h1] at q; rw [q] at hc; revert hc; decide
    obtain ⟨rfl, F1, R1⟩ := hR.next hn2 q0 q1 H3
    have H2 : Ev none d 180 169 [some (.ref 633), some (.int nt), some (.int a), some (.int (zI M 633 25))] [] M3 v1 M1 0 0 := H2
    unfold cmpS
    rw [if_neg (fun q => hc.elim (fun q2 => q.1 (h1.trans q2)) (fun q2 => q2.elim (fun q2 => q.2.1 (h1.trans q2)) (fun q2 => q.2.2 (h1.trans q2))))]
    rcases oe_169 R1.1 H2 with ⟨g1, e2, v4, M4, rfl, H4, H2⟩ | ⟨g1, e2, v4, M4, rfl, H4, H2⟩
    · rcases R1.2.2.2.1.num with ⟨_, b2, b3⟩ | ⟨b1, _⟩
      rotate_left
      · exact absurd g1 b1
      have b2 : (hdT s.1.tail).1 = 3 := b2
      rw [if_neg (fun q => q b2)]
      obtain ⟨rfl, F2, R2⟩ := R1.write H4
      obtain ⟨e3, v5, M5, _, H5, H2⟩ := oe_193 R2.1 H2
      obtain ⟨rfl, F3, R3⟩ := R2.next hn2 (by rw [show (hdT (s.1.tail, s.2.1, s.2.2 ++ [(a, zI M 633 25, zI M3 633 25)]).1).1 = 3 from b2]; decide) (by rw [show (hdT (s.1.tail, s.2.1, s.2.2 ++ [(a, zI M 633 25, zI M3 633 25)]).1).1 = 3 from b2]; decide) H5
      obtain ⟨e4, v6, M6, _, H6, H2⟩ := oe_197 R3.1 H2
      obtain ⟨M7, F4, R4, hB⟩ := one_end (nt := nt) (a := a) (c3 := c3) R3 H6 (fun S q => by subst q; exact oe_202 S H2) H
      refine ⟨M7, ((F1.trans F2).trans F3).trans F4, ?_, hB⟩
      have b3 : zI M3 633 25 = (hdT s.1.tail).2.2.2 := b3
      have e9 : s.2.2 ++ [(a, zI M 633 25, zI M3 633 25)] = s.2.2 ++ [(a, (hdT s.1).1, (hdT s.1.tail).2.2.2)] := by rw [b3, h25, h1]
      dsimp only at R4 ⊢
      rw [← e9]
      exact R4
    · rcases R1.2.2.2.1.num with ⟨b1, _⟩ | ⟨_, b2⟩
      · exact absurd b1 g1
      have b2 : (hdT s.1.tail).1 ≠ 3 := b2
      rw [if_pos b2]
      exact FLT.pre F1 (bad_end R1 H4 (fun y hy S => by subst hy; exact oe_182 S H2) H)
  rcases oe_74 hR.1 H1 with ⟨g1, g2, g3, g4, g5, e1, v3, M3, rfl, H3, H2⟩ | ⟨g1, g2, g3, g4, g5, e1, v3, M3, rfl, H3, H2⟩ | ⟨g1, g2, g3, g4, e1, v3, M3, rfl, H3, H2⟩ | ⟨g1, g2, g3, e1, v3, M3, rfl, H3, H2⟩ | ⟨g1, g2, e1, v3, M3, rfl, H3, H2⟩ | ⟨g1, g2, ⟨_, g3⟩, H2⟩ | ⟨g1, g2, ⟨_, g3⟩, H2⟩
  -- no sign
  · have ha : ¬ (nt = 0 ∧ a = -1) := fun q => hm1 q.2 g1
    have hn1 : ¬ nt = 1 := fun q => hnt.elim (fun q2 => hm1 q2.2 g1) (fun q2 => absurd (q.symm.trans q2.1) (by decide))
    rw [if_neg ha, if_neg hn1, if_pos g2]
    unfold cmpS
    have k1 : (hdT s.1).1 ≠ 60 := by
      rcases hR.2.2.2.1.sign (c := 60) (by decide) with ⟨q, _⟩ | ⟨_, q⟩
      · rw [q] at g3; exact absurd g3 (by decide)
      · exact q
    have k2 : (hdT s.1).1 ≠ 61 := by
      rcases hR.2.2.2.1.sign (c := 61) (by decide) with ⟨q, _⟩ | ⟨_, q⟩
      · rw [q] at g4; exact absurd g4 (by decide)
      · exact q
    have k3 : (hdT s.1).1 ≠ 62 := by
      rcases hR.2.2.2.1.sign (c := 62) (by decide) with ⟨q, _⟩ | ⟨_, q⟩
      · rw [q] at g5; exact absurd g5 (by decide)
      · exact q
    rw [if_pos ⟨k1, k2, k3⟩]
    exact bad_end hR H3 (fun y hy S => by subst hy; exact oe_159 S H2) H
  · have ha : ¬ (nt = 0 ∧ a = -1) := fun q => hm1 q.2 g1
    have hn1 : ¬ nt = 1 := fun q => hnt.elim (fun q2 => hm1 q2.2 g1) (fun q2 => absurd (q.symm.trans q2.1) (by decide))
    rw [if_neg ha, if_neg hn1, if_pos g2]
    rcases hR.2.2.2.1.sign (c := 62) (by decide) with ⟨_, q, q2⟩ | ⟨q, _⟩
    · exact cmp (by rw [Int32.le_iff_toInt_le] at g1; omega) g2 (by decide) q q2 H3 H2
    · exact absurd q g5
  · have ha : ¬ (nt = 0 ∧ a = -1) := fun q => hm1 q.2 g1
    have hn1 : ¬ nt = 1 := fun q => hnt.elim (fun q2 => hm1 q2.2 g1) (fun q2 => absurd (q.symm.trans q2.1) (by decide))
    rw [if_neg ha, if_neg hn1, if_pos g2]
    rcases hR.2.2.2.1.sign (c := 61) (by decide) with ⟨_, q, q2⟩ | ⟨q, _⟩
    · exact cmp (by rw [Int32.le_iff_toInt_le] at g1; omega) g2 (by decide) q q2 H3 H2
    · exact absurd q g4
  · have ha : ¬ (nt = 0 ∧ a = -1) := fun q => hm1 q.2 g1
    have hn1 : ¬ nt = 1 := fun q => hnt.elim (fun q2 => hm1 q2.2 g1) (fun q2 => absurd (q.symm.trans q2.1) (by decide))
    rw [if_neg ha, if_neg hn1, if_pos g2]
    rcases hR.2.2.2.1.sign (c := 60) (by decide) with ⟨_, q, q2⟩ | ⟨q, _⟩
    · exact cmp (by rw [Int32.le_iff_toInt_le] at g1; omega) g2 (by decide) q q2 H3 H2
    · exact absurd q g3
  -- a word alone
  · have ha : ¬ (nt = 0 ∧ a = -1) := fun q => hm1 q.2 g1
    have hn1 : ¬ nt = 1 := fun q => hnt.elim (fun q2 => hm1 q2.2 g1) (fun q2 => absurd (q.symm.trans q2.1) (by decide))
    rw [if_neg ha, if_neg hn1, if_neg g2]
    obtain ⟨rfl, F1, R1⟩ := hR.write H3
    obtain ⟨e4, v6, M6, _, H6, H2⟩ := oe_124 R1.1 H2
    obtain ⟨M7, F4, R4, hB⟩ := one_end (nt := nt) (a := a) (c3 := c3) R1 H6 (fun S q => by subst q; exact oe_202 S H2) H
    exact ⟨M7, F1.trans F4, R4, hB⟩
  -- a bracket
  · have hn : nt = 0 ∧ a = -1 := by
      rcases hnt with ⟨q, _⟩ | ⟨q, q2⟩
      · rw [q] at g2; exact absurd g2 (by decide)
      · rcases q2 with q2 | ⟨q2, _⟩
        · exact ⟨q, q2⟩
        · exact absurd (by rw [Int32.le_iff_toInt_le]; exact q2) g1
    rw [if_pos hn]
    obtain ⟨F1, R1⟩ := hR.push (x := 23) g3
    have h := hC d (dep + 1) s (23 :: P) _ M' v hDC (by rw [opS_23]; omega) (by omega) (Or.inr ⟨P, rfl⟩) R1 h40 ⟨c0, _, _, _, v1, M1, H2, H⟩
    cases hr : C (dep + 1) s with
    | inr f =>
      rw [hr] at h
      exact FLT.pre F1 h
    | inl s2 =>
      rw [hr] at h
      obtain ⟨M2, pend, c, p1, p2, p3, p4, F2, R2, ⟨c4, hB⟩⟩ := h
      have p23 : (23 : Int32) ∈ pend ++ 23 :: P := List.mem_append_right _ List.mem_cons_self
      show match (if (hdT s2.1).1 ≠ 41 then (.inr (1, (hdT s2.1).2.1) : PR) else .inl (s2.1.tail, s2.2.1, s2.2.2)) with
        | .inr f => FLT M M' v f
        | .inl s2 => ∃ M2, FB fQ wQ M M2 ∧ RC B n M2 (s2.1, s2.2.1, (wdP 3 P s2.2.2).2) (wdP 3 P s2.2.2).1 ∧ BST d M2 M' v
      have an0 : G_164 M2 6385252 = 0 := by
        rcases R2.2.2.2.1.word R2.2.2.2.2.2.1 (u := andW) (C := 6385252) (by decide) (by decide +kernel) with ⟨_, q⟩ | ⟨q, _⟩
        · exact absurd q p3
        · exact q
      have or0 : G_164 M2 28530 = 0 := by
        rcases R2.2.2.2.1.word R2.2.2.2.2.2.1 (u := orW) (C := 28530) (by decide) (by decide +kernel) with ⟨_, q⟩ | ⟨q, _⟩
        · exact absurd q p4
        · exact q
      by_cases h41 : (hdT s2.1).1 = 41
      · rw [if_neg (fun q => q h41)]
        rcases ceq_14 R2.1 hB with ⟨q, _⟩ | ⟨_, e3, v4, M4, _, H4, hB⟩
        · rcases R2.2.2.2.1.sign (c := 41) (by decide) with ⟨q2, _⟩ | ⟨_, q2⟩
          · rw [q2] at q; exact absurd q (by decide)
          · exact absurd h41 q2
        obtain ⟨ho, rfl⟩ := R2.isOpen H4
        rcases ho with ⟨rfl, _⟩ | ⟨_, q⟩
        rotate_left
        · exact absurd p23 q
        rcases ceq_27 R2.1 hB with ⟨q, _⟩ | ⟨_, e4, v5, M5, _, H5, hB⟩
        · exact absurd q (by decide)
        obtain ⟨rfl, F3, R3⟩ := RC.wdown _ _ _ R2 H5
        rw [wdP_1 (Or.inr ⟨P, rfl⟩) pend c p1] at R3
        obtain ⟨e5, v6, M6, _, H6, hB⟩ := ceq_35 R3.1 hB
        obtain ⟨_, F4, R4⟩ := R3.pop
        obtain ⟨rfl, F5, R5⟩ := RC.wdown _ _ _ R4 H6
        obtain ⟨e6, v7, M7, _, H7, hB⟩ := ceq_50 R5.1 hB
        obtain ⟨rfl, F6, R6⟩ := R5.next hn2 (by rw [show (hdT (s2.1, s2.2.1, (wdP 3 P (c ++ opsC pend)).2).1).1 = 41 from h41]; decide) (by rw [show (hdT (s2.1, s2.2.1, (wdP 3 P (c ++ opsC pend)).2).1).1 = 41 from h41]; decide) H7
        have hB := ceq_54 R6.1 hB
        refine ⟨M7, ((((F1.trans F2).trans F3).trans F4).trans F5).trans F6, ?_, _, hB⟩
        rw [p2]
        exact R6
      · rw [if_pos h41]
        have go57 : Ev none (d + 1) 179 57 [some (.ref 633), c4] [] M2 v M' 0 0 := by
          rcases ceq_14 R2.1 hB with ⟨_, hB⟩ | ⟨q, _⟩
          · exact hB
          · rcases R2.2.2.2.1.sign (c := 41) (by decide) with ⟨_, q2, _⟩ | ⟨q2, _⟩
            · exact absurd q2 h41
            · exact absurd q2 q
        rcases ceq_57 R2.1 go57 with ⟨_, _, e3, v4, M4, _, H4, hB⟩ | ⟨_, q, _⟩ | ⟨q, _⟩
        rotate_left
        · exact absurd or0 q
        · exact absurd an0 q
        obtain ⟨ho, rfl⟩ := R2.isOpen H4
        rcases ho with ⟨rfl, _⟩ | ⟨_, q⟩
        rotate_left
        · exact absurd p23 q
        rcases ceq_83 R2.1 hB with ⟨q, _⟩ | ⟨_, e4, v5, M5, _, H5, hB⟩
        · exact absurd q (by decide)
        obtain ⟨rfl, S0, F0, r1, r2⟩ := R2.bad H5
        obtain ⟨h3, rfl⟩ := ceq_91 S0 hB
        exact ⟨h3, S0, (F1.trans F2).trans F0, r1, r2⟩
  -- a not
  · have hn : nt = 1 := by
      rcases hnt with ⟨q, _⟩ | ⟨q, _⟩
      · exact q
      · exact absurd q g2
    have ha : ¬ (nt = 0 ∧ a = -1) := fun q => g2 q.1
    rw [if_neg ha, if_pos hn]
    obtain ⟨F1, R1⟩ := hR.push (x := 20) g3
    have h := hO d (dep + 1) s (20 :: P) _ M' v hDO (by rw [opS_20]; omega) (by omega) R1 h40 ⟨c0, _, _, _, v1, M1, H2, H⟩
    cases hr : O (dep + 1) s with
    | inr f =>
      rw [hr] at h
      exact FLT.pre F1 h
    | inl s2 =>
      rw [hr] at h
      obtain ⟨M2, F2, R2, hB⟩ := h
      rw [wdP_not] at R2
      exact ⟨M2, F1.trans F2, R2, hB⟩
end MAD
