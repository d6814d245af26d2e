/-! THE CLASS'S cond, all, one: all three -/
section CCS
variable {n t : Nat} {B : Nat → Int32}
theorem cm_20 : ((8 : Int32), (0 : Int32), (0 : Int32)) = cM (20, 0, 0) := by decide
def Hyp (B : Nat → Int32) (n t e me : Nat) (pad : Lo) (P : Nat → Sg → PR) : Prop := ∀ (dep : Nat) (dz : Int32) (s : Sg) (M M' : Mem) (v : Option Value), dz.toInt = (dep : Int) → dep ≤ 11 → CSt B n t M s → Ev none e me 0 (some (.ref 3) :: some (.int dz) :: pad) [] M v M' 0 0 → FA (fP t) (wP t) M M' ∧ RSt B n t M' v (P dep s)
theorem all_ok {e : Nat} {O : Nat → Sg → PR} (ht : gNth sT t = some 28) (hn2 : n ≤ 440) (hO : Hyp B n t e 38 [none, none] O) (hG : ∀ dep s s2, O dep s = .inl s2 → Gw s s2) : Hyp B n t (e + 1) 37 [none] (allB B O) := by
  intro dep dz s M M' v hdz hdep hC H
  obtain ⟨e1, v1, M1, he, H1, H⟩ := al_0 hC.1 H
  cases he
  obtain ⟨F1, R1⟩ := hO dep dz s _ _ _ hdz hdep hC H1
  unfold allB
  cases hr : O dep s with
  | inr f =>
    rw [hr] at R1
    obtain ⟨rfl, S1, r1, r2⟩ := RS_err R1
    rcases al_5 S1 H with ⟨_, h3, rfl⟩ | ⟨h3, _⟩
    · exact ⟨F1, h3, S1, r1, r2⟩
    · exact absurd rfl h3
  | inl s2 =>
    rw [hr] at R1
    obtain ⟨rfl, C1⟩ := RS_ok R1
    rcases al_5 C1.1 H with ⟨h3, _⟩ | ⟨_, H⟩
    · exact absurd h3 (by decide)
    obtain ⟨F2, R2⟩ := al_loop ht hn2 (fun s M M' v hC H => hO dep dz s M M' v hdz hdep hC H) (hG dep) 40 0 s2 _ _ _ (Nat.le_refl _) rfl C1 H
    exact ⟨F1.tr F2, R2⟩
theorem con_ok {e : Nat} {A : Nat → Sg → PR} (ht : gNth sT t = some 28) (hn2 : n ≤ 440) (hA : Hyp B n t e 37 [none] A) (hG : ∀ dep s s2, A dep s = .inl s2 → Gw s s2) : Hyp B n t (e + 1) 36 [none] (conB B A) := by
  intro dep dz s M M' v hdz hdep hC H
  obtain ⟨e1, v1, M1, he, H1, H⟩ := coq_0 hC.1 H
  cases he
  obtain ⟨F1, R1⟩ := hA dep dz s _ _ _ hdz hdep hC H1
  unfold conB
  cases hr : A dep s with
  | inr f =>
    rw [hr] at R1
    obtain ⟨rfl, S1, r1, r2⟩ := RS_err R1
    rcases coq_5 S1 H with ⟨_, h3, rfl⟩ | ⟨h3, _⟩
    · exact ⟨F1, h3, S1, r1, r2⟩
    · exact absurd rfl h3
  | inl s2 =>
    rw [hr] at R1
    obtain ⟨rfl, C1⟩ := RS_ok R1
    rcases coq_5 C1.1 H with ⟨h3, _⟩ | ⟨_, H⟩
    · exact absurd h3 (by decide)
    obtain ⟨F2, R2⟩ := coq_loop ht hn2 (fun s M M' v hC H => hA dep dz s M M' v hdz hdep hC H) (hG dep) 40 0 s2 _ _ _ (Nat.le_refl _) rfl C1 H
    exact ⟨F1.tr F2, R2⟩
/-- an ONE, behind its first token -/
theorem one_61 {e dep : Nat} {dz : Int32} {C O : Nat → Sg → PR} {s : Sg} {M M' : Mem} {v : Option Value} {a : Int32} (ht : gNth sT t = some 28) (hC0 : Hyp B n t e 36 [none] C) (hO0 : Hyp B n t e 38 [none, none] O) (gO : ∀ dep s s2, O dep s = .inl s2 → Gw s s2) (hdz : dz.toInt = (dep : Int)) (hdep : dep ≤ 10) (ha : a < 0 ∨ (0 ≤ a.toInt ∧ a.toInt ≤ 12)) (hC : CSt B n t M s) (hl : s.2.2.length + 2 ≤ 2 * s.2.1) (H : Ev none (e + 1) 38 61 [some (.ref 3), some (.int dz), some (.int a), none] [] M v M' 0 0) : FA (fP t) (wP t) M M' ∧ RSt B n t M' v (if a < 0 then (match C (dep + 1) s with
    | .inr f => .inr f
    | .inl s2 => if (hdT s2.1).1 ≠ 41 then .inr (1, (hdT s2.1).2.1) else .inl (s2.1.tail, s2.2.1, s2.2.2))
  else if a = 12 then (match O (dep + 1) s with
    | .inr f => .inr f
    | .inl s2 => .inl (s2.1, s2.2.1, s2.2.2 ++ [(20, 0, 0)]))
  else if 8 ≤ a then cmpS a s
  else .inl (s.1, s.2.1, s.2.2 ++ [(a, 0, 0)])) := by
  have hd1 : (dz + 1).toInt = ((dep + 1 : Nat) : Int) := by rw [i32_p1 (by omega)]; omega
  have z0 : (0 : Int32).toInt = 0 := rfl
  have na : ∀ {m : Nat}, m ≤ 12 → ¬ nI m < 0 ∧ (0 : Int32) ≤ nI m := fun {m} hm => (one_tab m hm).2.2
  by_cases hneg : a < 0
  · rw [if_pos hneg]
    have hn0 : ¬ 0 ≤ a := fun q => by rw [Int32.lt_iff_toInt_lt] at hneg; rw [Int32.le_iff_toInt_le] at q; omega
    rcases onq_61 hC.1 H with ⟨h, _⟩ | ⟨h, _⟩ | ⟨h, _⟩ | ⟨_, e1, v1, M1, he, H1, H⟩
    · exact absurd h hn0
    · exact absurd h hn0
    · exact absurd h hn0
    cases he
    obtain ⟨F1, R1⟩ := hC0 (dep + 1) (dz + 1) s _ _ _ hd1 (by omega) hC H1
    cases hr : C (dep + 1) s with
    | inr f =>
      rw [hr] at R1
      obtain ⟨rfl, S1, r1, r2⟩ := RS_err R1
      rcases onq_72 S1 H with ⟨_, h3, rfl⟩ | ⟨h3, _⟩ | ⟨h3, _⟩
      · exact ⟨F1, h3, S1, r1, r2⟩
      · exact absurd rfl h3
      · exact absurd rfl h3
    | inl s2 =>
      rw [hr] at R1
      obtain ⟨rfl, C1⟩ := RS_ok R1
      have b5 := C1.2.2.1.at.2.2.2.2.1
      show FA (fP t) (wP t) M M' ∧ RSt B n t M' v (if (hdT s2.1).1 ≠ 41 then .inr (1, (hdT s2.1).2.1) else .inl (s2.1.tail, s2.2.1, s2.2.2))
      rcases onq_72 C1.1 H with ⟨h3, _⟩ | ⟨_, h4, e2, v2, M2, he, H2, H⟩ | ⟨_, h4, e2, v2, M2, he, H2, H⟩
      · exact absurd h3 (by decide)
      · rw [b5] at h4
        rw [if_neg (fun q => q h4)]
        obtain ⟨rfl, F2, C2⟩ := C1.go ht (by rw [h4]; decide) (by rw [h4]; decide) H2
        obtain ⟨r1, rfl⟩ := onq_96 C2.1 H
        exact ⟨F1.tr F2, r1, C2⟩
      · rw [b5] at h4
        rw [if_pos h4]
        obtain ⟨r1, r2⟩ := fail_ret (v := v) (M' := M') C1 H2 (fun y hy => by subst hy; exact onq_91 (RS_err (C1.fail H2).2).2.1 H)
        exact ⟨F1.tr r1, r2⟩
  · rw [if_neg hneg]
    rcases ha with ha | ⟨ha0, ha1⟩
    · exact absurd ha hneg
    obtain ⟨m, hm, rfl⟩ := i32_in (k := 12) ha0 ha1 (by omega)
    obtain ⟨t1, t2, _, t4⟩ := one_tab m hm
    by_cases h12 : nI m = 12
    · rw [if_pos h12]
      have h8 := t1.mpr h12
      rcases onq_61 hC.1 H with ⟨_, _, e1, v1, M1, he, H1, H⟩ | ⟨_, h, _⟩ | ⟨_, h, _⟩ | ⟨h, _⟩
      rotate_left
      · exact absurd h8 h
      · exact absurd h8 h
      · exact absurd t4 h
      cases he
      obtain ⟨F1, R1⟩ := hO0 (dep + 1) (dz + 1) s _ _ _ hd1 (by omega) hC H1
      cases hr : O (dep + 1) s with
      | inr f =>
        rw [hr] at R1
        obtain ⟨rfl, S1, r1, r2⟩ := RS_err R1
        rcases onq_117 S1 H with ⟨_, h3, rfl⟩ | ⟨h3, _⟩
        · exact ⟨F1, h3, S1, r1, r2⟩
        · exact absurd rfl h3
      | inl s2 =>
        rw [hr] at R1
        obtain ⟨rfl, C1⟩ := RS_ok R1
        obtain ⟨g1, g2, g3⟩ := gO _ _ _ hr
        rcases onq_117 C1.1 H with ⟨h3, _⟩ | ⟨_, e2, v2, M2, he, H2, H⟩
        · exact absurd h3 (by decide)
        obtain ⟨rfl, F2, C2⟩ := C1.emit ht (c := (20, 0, 0)) (by omega) cm_20 H2
        obtain ⟨r1, rfl⟩ := onq_130 C2.1 H
        exact ⟨F1.tr F2, r1, C2⟩
    · rw [if_neg h12]
      have hm12 : m < 12 := by
        by_cases q : m < 12
        · exact q
        · exact absurd (by rw [show m = 12 from by omega]; rfl) h12
      have t3 := t2 hm12
      have n8 : ¬ sI 3 (nI m) = 8 := fun q => h12 (t1.mp q)
      by_cases h8 : 8 ≤ nI m
      · rw [if_pos h8]
        have hm8 : 8 ≤ m := by
          rw [Int32.le_iff_toInt_le, nI_toInt (lt31 (by omega))] at h8
          have o8 : (8 : Int32).toInt = 8 := rfl
          omega
        rcases onq_61 hC.1 H with ⟨_, h, _⟩ | ⟨_, _, h, _⟩ | ⟨_, _, _, e1, v1, M1, he, H1, H⟩ | ⟨h, _⟩
        · exact absurd h n8
        · exact absurd h8 (t3.mp h)
        · obtain ⟨F1, R1⟩ := cmp_ok ht hm8 (by omega) hC (by omega) H1
          cases hr : cmpS (nI m) s with
          | inr f =>
            rw [hr] at R1
            obtain ⟨rfl, S1, r1, r2⟩ := RS_err R1
            obtain ⟨h3, rfl⟩ := onq_142 S1 H
            exact ⟨F1, h3, S1, r1, r2⟩
          | inl s2 =>
            rw [hr] at R1
            obtain ⟨rfl, C1⟩ := RS_ok R1
            obtain ⟨h3, rfl⟩ := onq_142 C1.1 H
            exact ⟨F1, h3, C1⟩
        · exact absurd t4 h
      · rw [if_neg h8]
        have hm7 : m ≤ 7 := by
          by_cases q : m ≤ 7
          · exact q
          · refine absurd (Int32.le_iff_toInt_le.mpr ?_) h8
            rw [nI_toInt (lt31 (by omega))]
            have o8 : (8 : Int32).toInt = 8 := rfl
            omega
        rcases onq_61 hC.1 H with ⟨_, h, _⟩ | ⟨_, _, h, e1, v1, M1, he, H1, H⟩ | ⟨_, _, h, _⟩ | ⟨h, _⟩
        · exact absurd h n8
        · obtain ⟨rfl, F1, C1⟩ := hC.emit ht (by omega) (cM_flag m hm7) H1
          obtain ⟨r1, rfl⟩ := onq_158 C1.1 H
          exact ⟨F1, r1, C1⟩
        · exact absurd (t3.mpr h8) h
        · exact absurd t4 h
theorem oneq_ok {e : Nat} {C O : Nat → Sg → PR} (ht : gNth sT t = some 28) (hn2 : n ≤ 440) (hC0 : Hyp B n t e 36 [none] C) (hO0 : Hyp B n t e 38 [none, none] O) (gO : ∀ dep s s2, O dep s = .inl s2 → Gw s s2) : Hyp B n t (e + 1) 38 [none, none] (oneB B C O) := by
  intro dep dz s M M' v hdz hdep hC H
  have o40 : (40 : Int32).toInt = 40 := rfl
  have o10 : (10 : Int32).toInt = 10 := rfl
  have z0 : (0 : Int32).toInt = 0 := rfl
  have c5 := hC.2.2.1.at.2.2.2.2.1
  have c11 := hC.2.2.2.1
  obtain ⟨e1, v1, M1, he, H1, H⟩ := onq_0 hC.1 H
  obtain ⟨rfl, rfl⟩ := amq_all (ws := oneW) hC.1 hn2 hC.2.2.1 rfl (by decide) (List.cons_ne_nil _ _) (by decide) (by decide) H1
  rw [hC.wd] at H
  generalize ha : ixF (wdS B (hdT s.1)) oneW 0 = a at H
  have hneg : ∀ x : Int32, x < 0 ↔ ¬ 0 ≤ x := fun x => by rw [Int32.lt_iff_toInt_lt, Int32.le_iff_toInt_le]; omega
  have h40 : (40 ≤ zI M1 3 11) ↔ 40 ≤ s.2.1 := by rw [Int32.le_iff_toInt_le]; omega
  have h10 : (dz ≤ 10) ↔ ¬ 10 < dep := by rw [Int32.le_iff_toInt_le]; omega
  unfold oneB
  rw [ha]
  -- on behind the first token
  have go : ∀ {e2 : Nat} {v2 : Option Value} {M2 : Mem}, (a < 0 → (hdT s.1).1 = 40) → ¬ 40 ≤ s.2.1 → ¬ 10 < dep → Ev none e2 31 0 [some (.ref 3)] [] (wF M1 3 11 (zI M1 3 11 + 1)) v2 M2 0 0 → Ev none (e + 1) 38 61 [some (.ref 3), some (.int dz), some (.int a), none] (v2.toList ++ []) M2 v M' 0 0 → FA (fP t) (wP t) M1 M' ∧ RSt B n t M' v (if a < 0 ∧ (hdT s.1).1 ≠ 40 then .inr (1, (hdT s.1).2.1)
  else if 40 ≤ s.2.1 ∨ 10 < dep then .inr (4, (hdT s.1).2.1)
  else if a < 0 then (match C (dep + 1) (s.1.tail, s.2.1 + 1, s.2.2) with
    | .inr f => .inr f
    | .inl s2 => if (hdT s2.1).1 ≠ 41 then .inr (1, (hdT s2.1).2.1) else .inl (s2.1.tail, s2.2.1, s2.2.2))
  else if a = 12 then (match O (dep + 1) (s.1.tail, s.2.1 + 1, s.2.2) with
    | .inr f => .inr f
    | .inl s2 => .inl (s2.1, s2.2.1, s2.2.2 ++ [(20, 0, 0)]))
  else if 8 ≤ a then cmpS a (s.1.tail, s.2.1 + 1, s.2.2)
  else .inl (s.1.tail, s.2.1 + 1, s.2.2 ++ [(a, 0, 0)])) := by
    intro e2 v2 M2 k1 k2 k3 H2 H
    rw [if_neg (fun q => q.2 (k1 q.1)), if_neg (fun q => q.elim k2 k3)]
    obtain ⟨F1, C1⟩ := hC.one ht (by omega)
    have hty : (hdT s.1).1 = 40 ∨ ((hdT s.1).1 = 2 ∧ 0 ≤ a.toInt ∧ a.toInt ≤ 12) := by
      by_cases q : a < 0
      · exact Or.inl (k1 q)
      · rw [← ha] at q
        have h := one_wd q
        rw [ha] at h
        exact Or.inr h
    obtain ⟨rfl, F2, C2⟩ := C1.go ht (hty.elim (fun q => by rw [show (hdT (s.1, s.2.1 + 1, s.2.2).1).1 = 40 from q]; decide) (fun q => by rw [show (hdT (s.1, s.2.1 + 1, s.2.2).1).1 = 2 from q.1]; decide)) (hty.elim (fun q => by rw [show (hdT (s.1, s.2.1 + 1, s.2.2).1).1 = 40 from q]; decide) (fun q => by rw [show (hdT (s.1, s.2.1 + 1, s.2.2).1).1 = 2 from q.1]; decide)) H2
    have g8 := hC.2.2.2.2.2.2.2.1
    have ha2 : a < 0 ∨ (0 ≤ a.toInt ∧ a.toInt ≤ 12) := by
      by_cases q : a < 0
      · exact Or.inl q
      · rw [← ha] at q
        have h := one_wd q
        rw [ha] at h
        exact Or.inr h.2
    obtain ⟨F3, R3⟩ := one_61 ht hC0 hO0 gO hdz (by omega) ha2 C2 (by dsimp only; omega) H
    exact ⟨(F1.tr F2).tr F3, R3⟩
  have er4 : ∀ {e2 : Nat} {v2 : Option Value} {M2 : Mem}, (a < 0 → (hdT s.1).1 = 40) → (40 ≤ s.2.1 ∨ 10 < dep) → Ev none e2 27 0 [some (.ref 3), some (.int 4)] [] M1 v2 M2 0 0 → Ev none (e + 1) 38 46 [some (.ref 3), some (.int dz), some (.int a), none] (v2.toList ++ []) M2 v M' 0 0 → ∀ r : PR, FA (fP t) (wP t) M1 M' ∧ RSt B n t M' v (if a < 0 ∧ (hdT s.1).1 ≠ 40 then .inr (1, (hdT s.1).2.1) else if 40 ≤ s.2.1 ∨ 10 < dep then .inr (4, (hdT s.1).2.1) else r) := by
    intro e2 v2 M2 k1 k2 H2 H r
    rw [if_neg (fun q => q.2 (k1 q.1)), if_pos k2]
    exact fail_ret hC H2 (fun y hy => by subst hy; exact onq_46 (RS_err (hC.fail H2).2).2.1 H)
  rcases onq_6 hC.1 H with ⟨h1, h2, e2, v2, M2, he2, H2, H⟩ | ⟨h1, h2, h3, e2, v2, M2, he2, H2, H⟩ | ⟨h1, h2, h3, e2, v2, M2, he2, H2, H⟩ | ⟨h1, h2, h3, e2, v2, M2, he2, H2, H⟩ | ⟨h1, h2, h3, h4, e2, v2, M2, he2, H2, H⟩ | ⟨h1, h2, h3, h4, e2, v2, M2, he2, H2, H⟩ | ⟨h1, h2, e2, v2, M2, he2, H2, H⟩
  · exact er4 (fun q => absurd h1 ((hneg a).mp q)) (Or.inl (h40.mp h2)) H2 H _
  · exact go (fun q => absurd h1 ((hneg a).mp q)) (fun q => h2 (h40.mpr q)) (h10.mp h3) H2 H
  · refine er4 (fun q => absurd h1 ((hneg a).mp q)) (Or.inr ?_) H2 H _
    by_cases q : 10 < dep
    · exact q
    · exact absurd (h10.mpr q) h3
  · rw [c5] at h2
    exact er4 (fun _ => h2) (Or.inl (h40.mp h3)) H2 H _
  · rw [c5] at h2
    exact go (fun _ => h2) (fun q => h3 (h40.mpr q)) (h10.mp h4) H2 H
  · rw [c5] at h2
    refine er4 (fun _ => h2) (Or.inr ?_) H2 H _
    by_cases q : 10 < dep
    · exact q
    · exact absurd (h10.mpr q) h4
  · rw [c5] at h2
    rw [if_pos ⟨(hneg a).mpr h1, h2⟩]
    exact fail_ret hC H2 (fun y hy => by subst hy; exact onq_25 (RS_err (hC.fail H2).2).2.1 H)
theorem cc_main (ht : gNth sT t = some 28) (hn2 : n ≤ 440) : ∀ e : Nat, Hyp B n t e 36 [none] (prS B e).1 ∧ Hyp B n t e 37 [none] (prS B e).2.1 ∧ Hyp B n t e 38 [none, none] (prS B e).2.2 := by
  intro e
  induction e with
  | zero =>
    refine ⟨fun dep dz s M M' v _ _ hC H => ?_, fun dep dz s M M' v _ _ hC H => ?_, fun dep dz s M M' v _ _ hC H => ?_⟩
    · obtain ⟨e1, _, _, he, _⟩ := coq_0 hC.1 H
      cases he
    · obtain ⟨e1, _, _, he, _⟩ := al_0 hC.1 H
      cases he
    · obtain ⟨e1, _, _, he, _⟩ := onq_0 hC.1 H
      cases he
  | succ e ih =>
    exact ⟨con_ok ht hn2 ih.2.1 (sp_bd e).2.1, all_ok ht hn2 ih.2.2 (sp_bd e).2.2, oneq_ok ht hn2 ih.1 ih.2.2 (sp_bd e).2.2⟩
end CCS
