/-! THE CLASS'S TOKENS -/
noncomputable def bC (M : Mem) : Nat → Int32 := fun k => rN M 2 k
theorem rI_n {M : Mem} {a : Nat} {z : Int32} {p : Nat} (h : z.toInt = (p : Int)) : rI M a z = rN M a p := by
  unfold rI
  rw [cl_n h]
theorem sg_ok {M : Mem} {k : Int32} : G_30 M k = sgS (rI M 2 k) := by
  unfold G_30 sgS
  by_cases h1 : rI M 2 k = 59
  · rw [if_pos h1, if_pos (Or.inl h1)]
  rw [if_neg h1]
  by_cases h2 : rI M 2 k = 40
  · rw [if_pos h2, if_pos (Or.inr (Or.inl h2))]
  rw [if_neg h2]
  by_cases h3 : rI M 2 k = 41
  · rw [if_pos h3, if_pos (Or.inr (Or.inr (Or.inl h3)))]
  rw [if_neg h3]
  by_cases h4 : rI M 2 k = 60
  · rw [if_pos h4, if_pos (Or.inr (Or.inr (Or.inr (Or.inl h4))))]
  rw [if_neg h4]
  by_cases h5 : rI M 2 k = 61
  · rw [if_pos h5, if_pos (Or.inr (Or.inr (Or.inr (Or.inr (Or.inl h5)))))]
  rw [if_neg h5]
  by_cases h6 : rI M 2 k = 62
  · rw [if_pos h6, if_pos (Or.inr (Or.inr (Or.inr (Or.inr (Or.inr h6)))))]
  rw [if_neg h6, if_neg]
  rintro (q | q | q | q | q | q)
  · exact h1 q
  · exact h2 q
  · exact h3 q
  · exact h4 q
  · exact h5 q
  · exact h6 q
section CTK
variable {e : Nat} {M M' : Mem} {v : Option Value}
theorem ta_loop {n : Nat} {aq : Int32} (hS : SQ M) (hn : (zI M 1 1).toInt = (n : Int)) (hn2 : n ≤ 440) : ∀ (f p : Nat) (z : Int32) (a : Acc) (c0 : Option Value), p + f = n → z.toInt = (p : Int) → Ev none e 29 10 [some (.ref 3), some (.int aq), some (.int a.1), some (.int a.2.1), some (.int a.2.2), some (.int z), c0] [] M v M' 0 0 → ∃ (z2 : Int32) (c2 : Option Value), z2.toInt = ((p + rlS (bC M) f p : Nat) : Int) ∧ Ev none e 29 96 [some (.ref 3), some (.int aq), some (.int (cfS (bC M) (rlS (bC M) f p) p a).1), some (.int (cfS (bC M) (rlS (bC M) f p) p a).2.1), some (.int (cfS (bC M) (rlS (bC M) f p) p a).2.2), some (.int z2), c2] [] M v M' 0 0 := by
  intro f
  induction f with
  | zero =>
    intro p z a c0 hf hz H
    have hle : zI M 1 1 ≤ z := Int32.le_iff_toInt_le.mpr (by omega)
    rcases ta_10 hS H with ⟨h1, H⟩ | ⟨h1, _⟩ | ⟨h1, _⟩ | ⟨h1, _⟩ | ⟨h1, _⟩
    · exact ⟨z, c0, hz, H⟩
    all_goals exact absurd hle h1
  | succ f ih =>
    intro p z a c0 hf hz H
    have hle : ¬ zI M 1 1 ≤ z := fun q => by have := Int32.le_iff_toInt_le.mp q; omega
    have hb : rI M 2 z = bC M p := rI_n hz
    have hz1 : (z + 1).toInt = ((p + 1 : Nat) : Int) := by rw [i32_p1 (by omega)]; omega
    have key : ∀ a2 : Acc, (smI (bC M p) = 0 ∧ dgI (bC M p) = 0 → False) → cs1 (bC M p) a = a2 → Ev none e 29 10 [some (.ref 3), some (.int aq), some (.int a2.1), some (.int a2.2.1), some (.int a2.2.2), some (.int (z + 1)), some (.int (rI M 2 z))] [] M v M' 0 0 → ∃ (z2 : Int32) (c2 : Option Value), z2.toInt = ((p + rlS (bC M) (f + 1) p : Nat) : Int) ∧ Ev none e 29 96 [some (.ref 3), some (.int aq), some (.int (cfS (bC M) (rlS (bC M) (f + 1) p) p a).1), some (.int (cfS (bC M) (rlS (bC M) (f + 1) p) p a).2.1), some (.int (cfS (bC M) (rlS (bC M) (f + 1) p) p a).2.2), some (.int z2), c2] [] M v M' 0 0 := by
      intro a2 hx ha2 H
      obtain ⟨z2, c2, g1, g2⟩ := ih (p + 1) (z + 1) a2 _ (by omega) hz1 H
      have hr : rlS (bC M) (f + 1) p = rlS (bC M) f (p + 1) + 1 := by
        conv => lhs; unfold rlS
        rw [if_neg hx]
      refine ⟨z2, c2, by rw [hr, g1]; congr 1; omega, ?_⟩
      rw [hr]
      show Ev none e 29 96 [some (.ref 3), some (.int aq), some (.int (cfS (bC M) (rlS (bC M) f (p + 1)) (p + 1) (cs1 (bC M p) a)).1), some (.int (cfS (bC M) (rlS (bC M) f (p + 1)) (p + 1) (cs1 (bC M p) a)).2.1), some (.int (cfS (bC M) (rlS (bC M) f (p + 1)) (p + 1) (cs1 (bC M p) a)).2.2), some (.int z2), c2] [] M v M' 0 0
      rw [ha2]
      exact g2
    have e1 : G_126 M (rI M 2 z) 97 122 = smI (bC M p) := by rw [hb]; rfl
    have e2 : G_126 M (rI M 2 z) 48 57 = dgI (bC M p) := by rw [hb]; rfl
    rcases ta_10 hS H with ⟨h1, H⟩ | ⟨h1, h2, h3, H⟩ | ⟨h1, h2, h3, h4, H⟩ | ⟨h1, h2, h3, h4, H⟩ | ⟨h1, h2, H⟩
    · exact absurd h1 hle
    · rw [e1] at h2
      rw [e2] at h3
      have hr : rlS (bC M) (f + 1) p = 0 := by
        unfold rlS
        rw [if_pos ⟨h2, h3⟩]
      rw [hr]
      exact ⟨z, _, hz, H⟩
    · rw [e1] at h2
      rw [e2] at h3
      refine key (a.1, a.2.1 + 1, a.2.2) (fun q => h3 q.2) ?_ H
      unfold cs1
      rw [if_pos h2, if_pos h4]
    · rw [e1] at h2
      rw [e2] at h3
      refine key (a.1, a.2.1 + 1, ((10 * a.2.2) + bC M p) - 48) (fun q => h3 q.2) ?_ (by rw [← hb]; exact H)
      unfold cs1
      rw [if_pos h2, if_neg h4]
    · rw [e1] at h2
      refine key (a.1 + 1, a.2.1, a.2.2) (fun q => h2 q.1) ?_ H
      unfold cs1
      rw [if_neg h2]
theorem ta_all {n p : Nat} {aq : Int32} (hS : SQ M) (hn : (zI M 1 1).toInt = (n : Int)) (hn2 : n ≤ 440) (hp : aq.toInt = (p : Int)) (hlt : p < n) (H : Ev none e 29 0 [some (.ref 3), some (.int aq), none, none, none, none, none] [] M v M' 0 0) : ∃ z : Int32, z.toInt = ((tokS (bC M) n p).2.2.1 : Int) ∧ v = some (.int z) ∧ (0 ≤ (zI M 3 5).toInt ∧ (zI M 3 5).toInt < 401) ∧ M' = wI (wI (wI (wI M 4 ((zI M 3 5).toNatClampNeg) (tokS (bC M) n p).1) 5 ((zI M 3 5).toNatClampNeg) aq) 6 ((zI M 3 5).toNatClampNeg) z) 7 ((zI M 3 5).toNatClampNeg) (tokS (bC M) n p).2.2.2 := by
  have H := ta_0 hS H
  obtain ⟨z2, c2, hz2, H⟩ := ta_loop hS hn hn2 (n - p) p aq (0, 0, 0) none (by omega) hp H
  have hb : rI M 2 aq = bC M p := rI_n hp
  have hq1 : (aq + 1).toInt = ((p + 1 : Nat) : Int) := by rw [i32_p1 (by omega)]; omega
  have hrl := rlS_le (B := bC M) (n - p) p
  by_cases hk : rlS (bC M) (n - p) p = 0
  · have hT : tokS (bC M) n p = (sgS (bC M p), p, p + 1, 0) := by
      unfold tokS
      rw [if_pos hk]
    rw [hk] at hz2 H
    have hzz : z2 = aq := Int32.toInt_inj.mp (by omega)
    rw [hT]
    rcases ta_96 hS H with ⟨h1, b1, b2, b3, b4, h2, h3⟩ | ⟨h1, _⟩ | ⟨h1, _⟩ | ⟨h1, _⟩ | ⟨h1, _⟩ | ⟨h1, _⟩ | ⟨h1, _⟩ | ⟨h1, _⟩
    · refine ⟨aq + 1, hq1, h2, b1, ?_⟩
      rw [h3, sg_ok, hb]
      rfl
    all_goals exact absurd hzz h1
  · have hT : tokS (bC M) n p = (tyA (cfS (bC M) (rlS (bC M) (n - p) p) p (0, 0, 0)), p, p + rlS (bC M) (n - p) p, (cfS (bC M) (rlS (bC M) (n - p) p) p (0, 0, 0)).2.2) := by
      unfold tokS
      rw [if_neg hk]
    rw [hT]
    have hzz : ¬ z2 = aq := fun q => by rw [q] at hz2; omega
    generalize cfS (bC M) (rlS (bC M) (n - p) p) p (0, 0, 0) = a at H ⊢
    refine ⟨z2, hz2, ?_⟩
    unfold tyA
    rcases ta_96 hS H with ⟨h1, _⟩ | ⟨_, h2, h3, h4, _⟩ | ⟨_, h2, h3, h4, _⟩ | ⟨_, h2, h3, h4, b1, b2, b3, b4, r1, r2⟩ | ⟨_, h2, h3, b1, b2, b3, b4, r1, r2⟩ | ⟨_, h2, h3, h4, b1, b2, b3, b4, r1, r2⟩ | ⟨_, h2, h3, h4, b1, b2, b3, b4, r1, r2⟩ | ⟨_, h2, h3, b1, b2, b3, b4, r1, r2⟩
    · exact absurd h1 hzz
    · rw [h4] at h3
      exact absurd h3 (by decide)
    · rw [h4] at h3
      exact absurd h3 (by decide)
    · rw [if_neg (fun q => q.2 h3), if_neg (fun q => h4 q.1)]
      exact ⟨r1, b1, r2⟩
    · rw [if_pos ⟨h2, h3⟩]
      exact ⟨r1, b1, r2⟩
    · rw [if_neg (fun q => h2 q.1), if_neg (fun q => q.2 h4)]
      exact ⟨r1, b1, r2⟩
    · rw [if_neg (fun q => h2 q.1), if_pos ⟨h3, h4⟩]
      exact ⟨r1, b1, r2⟩
    · rw [if_neg (fun q => h2 q.1), if_neg (fun q => h3 q.1)]
      exact ⟨r1, b1, r2⟩
end CTK
