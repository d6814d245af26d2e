/-! THE REFERENCE'S choose -/
def RWC (w : WC) (t : Nat) (M : Mem) : Prop := zI M 633 34 = w.1 ∧ zI M 633 35 = w.2.1 ∧ (zI M 633 36).toInt = (t : Int) ∧ zI M 633 37 = w.2.2.1 ∧ zI M 633 38 = w.2.2.2.1 ∧ zI M 633 39 = bI w.2.2.2.2
section RCH
variable {e t : Nat} {T : TS} {P P' : PK} {M M1 M' : Mem} {v : Option Value} {c d : Int32} {w : WC}
theorem RWC.tu (h : RWC w t M) (hF : FZ noF tuW noO M M') : RWC w t M' := by
  have z : ∀ k, zI M' 633 k = zI M 633 k := fun k => hF.fi (fun q => q)
  unfold RWC
  rw [z, z, z, z, z, z]
  exact h
theorem RST.tu (h : RST T P M) (hS : SQ M') (hF : FZ noF tuW noO M M') : RST T P M' := tu_rst h hS hF
/-- places of lines -/
theorem ln_pl {tx i : Int32} {j : Nat} (ht : tx.toInt = (t : Int)) (ht7 : t < 7) : (16 * tx).toInt = 16 * (t : Int) := by
  have z16 : (16 : Int32).toInt = 16 := rfl
  have e : (16 : Int32).toInt * tx.toInt = 16 * (t : Int) := by rw [z16, ht]
  rw [i32_mul (by omega) (by omega), e]
theorem ln_end (h : RST T P M) {tx : Int32} (ht : tx.toInt = (t : Int)) (ht7 : t < 7) : ((16 * tx) + (rI M 639 tx)).toInt = 16 * (t : Int) + ((T t).2.length : Int) := by
  have hq := (h.2.2.2 t ht7).1.1.1
  have e := ln_pl (i := 0) (j := 0) ht ht7
  have e2 : (rI M 639 tx).toInt = ((T t).2.length : Int) := by rw [rI_n ht]; exact hq.1
  have := hq.2.1
  rw [i32_add (by omega) (by omega), e, e2]
theorem ln_get (h : RST T P M) (ht7 : t < 7) {i : Int32} {j : Nat} {l : Lnq} (hi : i.toInt = ((16 * t + j : Nat) : Int)) (hl : (T t).2[j]? = some l) : rI M 640 i = l.1 ∧ rI M 641 i = l.2.1 ∧ rI M 642 i = l.2.2.1 := by
  obtain ⟨h1, h2, h3, _⟩ := (h.2.2.2 t ht7).1.1.1.2.2 j l hl
  rw [rI_n hi, rI_n hi, rI_n hi]
  exact ⟨h1, h2, h3⟩
theorem ln_16 (h : RST T P M) (ht7 : t < 7) : (T t).2.length ≤ 16 := (h.2.2.2 t ht7).1.1.1.2.1
theorem rfst_loop (hw : wh4 P) (hc : inC P c) {k dd : Int32} : ∀ (r : List Lnq) (M : Mem) (j : Nat) (i : Int32), RST T P M → (T 0).2.drop j = r → i.toInt = (j : Int) → j ≤ (T 0).2.length → Ev none e 188 3 [some (.ref 633), some (.int k), some (.int c), some (.int dd), some (.int i)] [] M v M' 0 0 → v = some (.int (fstL (T 0) P k c dd r)) ∧ SQ M' ∧ FZ noF tuW noO M M' := by
  intro r
  induction r with
  | nil =>
    intro M j i hR hd hi hj H
    have h1 := dr_nil hd
    have hl := (hR.2.2.2 0 (by decide)).1.1.1.1
    have hl : (rI M 639 0).toInt = ((T 0).2.length : Int) := hl
    rcases rfs_3 hR.1 H with ⟨_, _, h2, h3⟩ | ⟨a1, _⟩ | ⟨a1, _⟩
    · subst h3
      exact ⟨h2, hR.1, FZ.refl _⟩
    all_goals exact absurd (Int32.le_iff_toInt_le.mpr (by omega)) a1
  | cons l r ih =>
    intro M j i hR hd hi hj H
    obtain ⟨h1, h2, h3⟩ := ln_at hd
    have hl := (hR.2.2.2 0 (by decide)).1.1.1.1
    have hl : (rI M 639 0).toInt = ((T 0).2.length : Int) := hl
    have h16 := ln_16 hR (t := 0) (by decide)
    have hi1 : (i + 1).toInt = ((j + 1 : Nat) : Int) := by
      rw [i32_p1 (by omega)]
      omega
    have hi0 : i.toInt = ((16 * 0 + j : Nat) : Int) := by omega
    obtain ⟨k1, k2, k3⟩ := ln_get hR (t := 0) (by decide) hi0 h1
    unfold fstL
    rcases rfs_3 hR.1 H with ⟨a1, _⟩ | ⟨_, a2, _, _, e1, v1, M1, rfl, H1, H⟩ | ⟨_, a2, _, _, H⟩
    · have := Int32.le_iff_toInt_le.mp a1
      omega
    · rw [k1] at a2
      obtain ⟨rfl, q2, q3⟩ := rhold_ok hR hw hc (t := 0) (by decide) hi0 h1 H1
      have hR1 := hR.tu q2 q3
      rcases rfs_32 q2 H with ⟨b1, H⟩ | ⟨b1, _, b2, b3⟩
      · rw [bI_0] at b1
        rw [if_neg (fun q => by rw [q.2] at b1; cases b1)]
        obtain ⟨r1, r2, r3⟩ := ih M1 (j + 1) _ hR1 h2 hi1 (by omega) H
        exact ⟨r1, r2, q3.trans r3⟩
      · rw [bI_0, Bool.not_eq_false] at b1
        rw [if_pos ⟨a2, b1⟩]
        obtain ⟨_, _, n3⟩ := ln_get hR1 (t := 0) (by decide) hi0 h1
        rw [n3] at b2
        subst b3
        exact ⟨b2, q2, q3⟩
    · rw [k1] at a2
      rw [if_neg (fun q => a2 q.1)]
      exact ih M (j + 1) _ hR h2 hi1 (by omega) H
theorem rfst_ok (hR : RST T P M) (hw : wh4 P) (hc : inC P c) {k dd : Int32} (H : Ev none e 188 0 [some (.ref 633), some (.int k), some (.int c), some (.int dd), none] [] M v M' 0 0) : v = some (.int (fstL (T 0) P k c dd (T 0).2)) ∧ SQ M' ∧ FZ noF tuW noO M M' := rfst_loop hw hc (T 0).2 M 0 0 hR rfl rfl (Nat.zero_le _) (rfs_0 hR.1 H)
theorem rmay_loop (hw : wh4 P) (hc : inC P c) (ht7 : t < 7) : ∀ (r : List Lnq) (M : Mem) (j : Nat) (i : Int32), RST T P M → (zI M 633 36).toInt = (t : Int) → (T t).2.drop j = r → i.toInt = ((16 * t + j : Nat) : Int) → j ≤ (T t).2.length → Ev none e 201 8 [some (.ref 633), some (.int c), some (.int i)] [] M v M' 0 0 → v = some (.int (bI (nevL (T 0) P (T t) c r))) ∧ SQ M' ∧ FZ noF tuW noO M M' := by
  intro r
  induction r with
  | nil =>
    intro M j i hR hx hd hi hj H
    have h1 := dr_nil hd
    have hl := ln_end hR hx ht7
    rcases rma_8 hR.1 H with ⟨_, _, h2, h3⟩ | ⟨a1, _⟩ | ⟨a1, _⟩
    · subst h3
      exact ⟨h2, hR.1, FZ.refl _⟩
    all_goals exact absurd (Int32.le_iff_toInt_le.mpr (by omega)) a1
  | cons l r ih =>
    intro M j i hR hx hd hi hj H
    obtain ⟨h1, h2, h3⟩ := ln_at hd
    have hl := ln_end hR hx ht7
    have h16 := ln_16 hR ht7
    have hi1 : (i + 1).toInt = ((16 * t + (j + 1) : Nat) : Int) := by
      rw [i32_p1 (by omega)]
      omega
    obtain ⟨k1, k2, k3⟩ := ln_get hR ht7 hi h1
    unfold nevL
    rcases rma_8 hR.1 H with ⟨a1, _⟩ | ⟨_, a2, _, _, e1, v1, M1, rfl, H1, H⟩ | ⟨_, a2, _, _, H⟩
    · have := Int32.le_iff_toInt_le.mp a1
      omega
    · rw [k1] at a2
      obtain ⟨rfl, q2, q3⟩ := rhold_ok hR hw hc ht7 hi h1 H1
      rcases rma_46 q2 H with ⟨b1, H⟩ | ⟨b1, b2, b3⟩
      · rw [bI_0] at b1
        rw [if_neg (fun q => by rw [q.2] at b1; cases b1)]
        obtain ⟨r1, r2, r3⟩ := ih M1 (j + 1) _ (hR.tu q2 q3) (by rw [q3.fi (fun q => q)]; exact hx) h2 hi1 (by omega) H
        exact ⟨r1, r2, q3.trans r3⟩
      · rw [bI_0, Bool.not_eq_false] at b1
        rw [if_pos ⟨a2, b1⟩]
        subst b3
        exact ⟨b2, q2, q3⟩
    · rw [k1] at a2
      rw [if_neg (fun q => a2 q.1)]
      exact ih M (j + 1) _ hR hx h2 hi1 (by omega) H
theorem rmay_ok (hR : RST T P M) (hw : wh4 P) (hc : inC P c) (ht7 : t < 7) (hx : (zI M 633 36).toInt = (t : Int)) (H : Ev none e 201 0 [some (.ref 633), some (.int c), none] [] M v M' 0 0) : v = some (.int (bI (nevL (T 0) P (T t) c (T t).2))) ∧ SQ M' ∧ FZ noF tuW noO M M' := rmay_loop hw hc ht7 (T t).2 M 0 _ hR hx rfl (by rw [ln_pl (i := 0) (j := 0) hx ht7]; omega) (Nat.zero_le _) (rma_0 hR.1 H)
theorem rfnd_loop (hR : RST T P M) (ht7 : t < 7) {tx k : Int32} (hx : tx.toInt = (t : Int)) : ∀ (r : List Lnq) (j : Nat) (i : Int32), (T t).2.drop j = r → i.toInt = ((16 * t + j : Nat) : Int) → j ≤ (T t).2.length → Ev none e 172 5 [some (.ref 633), some (.int tx), some (.int k), some (.int i)] [] M v M' 0 0 → M' = M ∧ ((r.find? (fun l => decide (l.1 = k)) = none ∧ v = some (.int (-1))) ∨ ∃ l y, r.find? (fun l => decide (l.1 = k)) = some l ∧ v = some (.int y) ∧ 0 ≤ y.toInt ∧ rI M 642 y = l.2.2.1) := by
  intro r
  induction r with
  | nil =>
    intro j i hd hi hj H
    have h1 := dr_nil hd
    have hl := ln_end hR hx ht7
    rcases rfd_5 hR.1 H with ⟨_, _, h2, h3⟩ | ⟨a1, _⟩ | ⟨a1, _⟩
    · exact ⟨h3, Or.inl ⟨rfl, h2⟩⟩
    all_goals exact absurd (Int32.le_iff_toInt_le.mpr (by omega)) a1
  | cons l r ih =>
    intro j i hd hi hj H
    obtain ⟨h1, h2, h3⟩ := ln_at hd
    have hl := ln_end hR hx ht7
    have h16 := ln_16 hR ht7
    have hi1 : (i + 1).toInt = ((16 * t + (j + 1) : Nat) : Int) := by
      rw [i32_p1 (by omega)]
      omega
    obtain ⟨k1, k2, k3⟩ := ln_get hR ht7 hi h1
    rcases rfd_5 hR.1 H with ⟨a1, _⟩ | ⟨_, a2, _, _, h4, h5⟩ | ⟨_, a2, _, _, H⟩
    · have := Int32.le_iff_toInt_le.mp a1
      omega
    · rw [k1] at a2
      refine ⟨h5, Or.inr ⟨l, i, ?_, h4, by omega, k3⟩⟩
      rw [List.find?_cons_of_pos (by exact decide_eq_true a2)]
    · rw [k1] at a2
      rw [List.find?_cons_of_neg (by rw [decide_eq_false a2]; decide)]
      exact ih (j + 1) _ h2 hi1 (by omega) H
theorem rcrd_loop (hR : RST T P M) (h60 : (P 157).toInt ≤ 60) : ∀ (n k : Nat) (kz nn : Int32), kz.toInt = (k : Int) → (k : Int) + (n : Int) = (P 157).toInt → nn = crdP P c k → Ev none e 198 4 [some (.ref 633), some (.int c), some (.int nn), some (.int kz)] [] M v M' 0 0 → M' = M ∧ v = some (.int (crdP P c (k + n))) := by
  have h157 : rI M 635 157 = P 157 := r_s hR (n := 157) rfl (by decide)
  intro n
  induction n with
  | zero =>
    intro k kz nn hk hn hc H
    rcases rcr_4 hR.1 H with ⟨_, _, h1, h2⟩ | ⟨a1, _⟩ | ⟨a1, _⟩
    · exact ⟨h2, by rw [h1, hc]; rfl⟩
    all_goals exact absurd (Int32.le_iff_toInt_le.mpr (by rw [h157]; omega)) a1
  | succ n ih =>
    intro k kz nn hk hn hc H
    have hk1 : (kz + 1).toInt = ((k + 1 : Nat) : Int) := by
      rw [i32_p1 (by omega)]
      omega
    have hw : rI M 635 (158 + (6 * kz)) = P (158 + 6 * k) := r_s hR (by rw [(i32_e kz (by omega) (by omega)).1]; omega) (by omega)
    rw [show k + (n + 1) = k + 1 + n from by omega]
    rcases rcr_4 hR.1 H with ⟨a1, _⟩ | ⟨_, a2, _, _, H⟩ | ⟨_, a2, _, _, H⟩
    · rw [h157] at a1
      have := Int32.le_iff_toInt_le.mp a1
      omega
    · rw [hw] at a2
      refine ih (k + 1) _ _ hk1 (by omega) ?_ H
      show _ = crdP P c k + (if P (158 + 6 * k) = c then 1 else 0)
      rw [if_pos a2, hc]
    · rw [hw] at a2
      refine ih (k + 1) _ _ hk1 (by omega) ?_ H
      show _ = crdP P c k + (if P (158 + 6 * k) = c then 1 else 0)
      rw [if_neg a2, hc]
theorem rcrd_ok (hR : RST T P M) (hK : okK P) (H : Ev none e 198 0 [some (.ref 633), some (.int c), none, none] [] M v M' 0 0) : M' = M ∧ v = some (.int (crdP P c (P 157).toInt.toNat)) := by
  obtain ⟨h1, h2⟩ := rcrd_loop hR hK.2.1 (P 157).toInt.toNat 0 0 0 rfl (by have := hK.1; omega) rfl (rcr_0 hR.1 H)
  rw [Nat.zero_add] at h2
  exact ⟨h1, h2⟩
theorem rsee_loop (hR : RST T P M) (hw : wh4 P) {c0 fa : Int32} : ∀ (n : Nat) (le nn vv : Int32), le.toInt = (n : Int) → (vv = -1 ∨ inC P vv) → Ev none e 199 33 [some (.ref 633), some (.int c0), some (.int d), some (.int fa), some (.int le), some (.int nn), some (.int vv)] [] M v M' 0 0 → M' = M ∧ v = some (.int (seeP (T 0) P d n vv nn)) := by
  have z0 : (0 : Int32).toInt = 0 := rfl
  intro n
  induction n with
  | zero =>
    intro le nn vv hl _ H
    rcases rse_33 hR.1 H with ⟨_, h1, h2⟩ | ⟨a1, _⟩ | ⟨a1, _⟩ | ⟨a1, _⟩ | ⟨a1, _⟩
    · exact ⟨h2, h1⟩
    all_goals exact absurd (Int32.le_iff_toInt_le.mpr (by omega)) a1
  | succ n ih =>
    intro le nn vv hl hv H
    have hle := (i32_lt le).2
    have hm : (le + Int32.ofInt (-1)).toInt = (n : Int) := by rw [i32_m1e (by omega)]; omega
    have hop : ¬ vv < 0 → inC P vv := fun q => by
      rcases hv with h | h
      · exact absurd (by rw [h]; decide) q
      · exact h
    unfold seeP
    rcases rse_33 hR.1 H with ⟨a1, _⟩ | ⟨_, a2, h1, h2⟩ | ⟨_, a2, a3, h1, h2⟩ | ⟨_, a2, a3, a4, H⟩ | ⟨_, a2, a3, a4, H⟩
    · have := Int32.le_iff_toInt_le.mp a1
      omega
    · rw [if_pos (Or.inl a2)]
      exact ⟨h2, h1⟩
    · rw [g148_ok hR hw (hop a2), bI_0] at a3
      rw [if_pos (Or.inr a3)]
      exact ⟨h2, h1⟩
    · have hin := hop a2
      rw [g148_ok hR hw hin, bI_0] at a3
      rw [g150_ok hR hw hin, bI_0] at a4
      rw [if_neg (fun q => q.elim a2 a3), a4, if_neg (by decide)]
      rw [g194_ok hR] at H
      exact ih _ _ _ hm (besP_in hw hin) H
    · have hin := hop a2
      rw [g148_ok hR hw hin, bI_0] at a3
      rw [g150_ok hR hw hin, bI_0, Bool.not_eq_false] at a4
      rw [if_neg (fun q => q.elim a2 a3), a4, if_pos rfl]
      rw [g194_ok hR] at H
      exact ih _ _ _ hm (besP_in hw hin) H
theorem rsee_ok (hR : RST T P M) (hw : wh4 P) (hc : inC P c) (ht7 : t < 7) (hx : (zI M 633 36).toInt = (t : Int)) (H : Ev none e 199 0 [some (.ref 633), some (.int c), some (.int d), none, none, none, none] [] M v M' 0 0) : M' = M ∧ v = some (.int (seeP (T 0) P d (siQ (T t)).toInt.toNat c 0)) := by
  have hs := si_rng (hR.2.2.2 t ht7).1.2
  have hnn := hs.1
  obtain ⟨e1, v1, M1, rfl, H1, H⟩ := rse_0 hR.1 H
  obtain ⟨rfl, hf⟩ := rfnd_loop hR ht7 hx (T t).2 0 _ rfl (by rw [ln_pl (i := 0) (j := 0) hx ht7]; omega) (Nat.zero_le _) (rfd_0 hR.1 H1)
  have z0 : (0 : Int32).toInt = 0 := rfl
  rcases hf with ⟨f1, rfl⟩ | ⟨l, y, f1, rfl, f2, f3⟩
  · have hsi : siQ (T t) = 3 := by
      unfold siQ tvS
      rw [f1]
    rcases rse_10 hR.1 H with ⟨a1, _⟩ | ⟨_, H⟩
    · exact absurd a1 (by decide)
    · rw [hsi] at hs ⊢
      exact rsee_loop hR hw 3 3 0 c rfl (Or.inr hc) H
  · have hsi : siQ (T t) = l.2.2.1 := by
      unfold siQ tvS
      rw [f1]
    rcases rse_10 hR.1 H with ⟨_, _, H⟩ | ⟨a1, _⟩
    · rw [f3, ← hsi] at H
      exact rsee_loop hR hw (siQ (T t)).toInt.toNat (siQ (T t)) 0 c (by omega) (Or.inr hc) H
    · exact absurd (Int32.le_iff_toInt_le.mpr (by omega)) a1
theorem rmea_ok (hR : RST T P M) (hw : wh4 P) (hK : okK P) (hc : inC P c) (ht7 : t < 7) (hW : RWC w t M) (hh : inC P w.1) {m : Int32} (m0 : 0 ≤ m.toInt) (m6 : m.toInt ≤ 6) (H : Ev none e 197 0 [some (.ref 633), some (.int c), some (.int d), some (.int m)] [] M v M' 0 0) : M' = M ∧ v = some (.int (meaQ (T 0) P (T t) w c d m)) := by
  have hS := hR.1
  obtain ⟨w1, w2, w3, w4, w5, w6⟩ := hW
  obtain ⟨km, hk, rfl⟩ := i32_in (k := 6) m0 m6 (by decide)
  clear m0 m6
  match km, hk with
  | 0, _ =>
    show M' = M ∧ v = some (.int (if grnB P c = true ∧ ¬ bdQ (T 0) ≤ cE P 3 c then (bdQ (T 0) - cE P 3 c) / 10 else 0))
    rcases rme0_0 hS H with ⟨a1, h1, h2⟩ | ⟨a1, a2, h1, h2⟩ | ⟨a1, a2, h1, h2⟩
    · rw [g149_ok hR hw hc, bI_0] at a1
      exact ⟨h2, by rw [h1, if_neg (fun q => by rw [a1] at q; cases q.1)]⟩
    · rw [g149_ok hR hw hc, bI_0, Bool.not_eq_false] at a1
      rw [g150_ok hR hw hc, bI_0] at a2
      have h3 : ¬ bdQ (T 0) ≤ cE P 3 c := of_decide_eq_false a2
      exact ⟨h2, by rw [h1, if_pos ⟨a1, h3⟩, hR.2.2.1.1, r_cell hR hw hc (fn := 3) rfl (by decide)]⟩
    · rw [g150_ok hR hw hc, bI_0, Bool.not_eq_false] at a2
      have h3 : bdQ (T 0) ≤ cE P 3 c := of_decide_eq_true a2
      exact ⟨h2, by rw [h1, if_neg (fun q => q.2 h3)]⟩
  | 1, _ =>
    obtain ⟨h1, h2⟩ := rme1_0 hS H
    exact ⟨h2, by rw [h1, r_cell hR hw hc (fn := 4) rfl (by decide)]; rfl⟩
  | 2, _ =>
    obtain ⟨h1, h2⟩ := rme2_0 hS H
    exact ⟨h2, by rw [h1, g141_ok, w1, r_cell hR hw hc (fn := 2) rfl (by decide), r_cell hR hw hh (fn := 2) rfl (by decide)]; rfl⟩
  | 3, _ =>
    show M' = M ∧ v = some (.int (if w.2.2.2.2 = true then 0 else crdP P c (P 157).toInt.toNat))
    rcases rme3_0 hS H with ⟨a1, e1, v1, M1, rfl, H1, H⟩ | ⟨a1, h1, h2⟩
    · rw [w6, bI_0] at a1
      obtain ⟨rfl, rfl⟩ := rcrd_ok hR hK H1
      obtain ⟨h1, h2⟩ := rme3_121 hS H
      exact ⟨h2, by rw [h1, a1, if_neg (by decide)]⟩
    · rw [w6, bI_0, Bool.not_eq_false] at a1
      exact ⟨h2, by rw [h1, a1, if_pos rfl]⟩
  | 4, _ =>
    show M' = M ∧ v = some (.int (if 0 ≤ w.2.2.1 ∧ ¬ w.2.2.1 = d then 1 else 0))
    rcases rme4_0 hS H with ⟨a1, h1, h2⟩ | ⟨a1, a2, h1, h2⟩ | ⟨a1, a2, h1, h2⟩
    · rw [w4, i32_z] at a1
      exact ⟨h2, by rw [h1, if_neg (fun q => by have := Int32.le_iff_toInt_le.mp q.1; have z : (0 : Int32).toInt = 0 := rfl; omega)]⟩
    · rw [w4] at a2
      exact ⟨h2, by rw [h1, if_neg (fun q => q.2 a2)]⟩
    · rw [w4] at a1 a2
      exact ⟨h2, by rw [h1, if_pos ⟨Int32.le_iff_toInt_le.mpr (by rw [i32_z] at a1; have z : (0 : Int32).toInt = 0 := rfl; omega), a2⟩]⟩
  | 5, _ =>
    show M' = M ∧ v = some (.int (if c = w.2.2.2.1 then 1 else 0))
    rcases rme5_0 hS H with ⟨a1, h1, h2⟩ | ⟨a1, h1, h2⟩
    · rw [w5] at a1
      exact ⟨h2, by rw [h1, if_pos a1]⟩
    · rw [w5] at a1
      exact ⟨h2, by rw [h1, if_neg a1]⟩
  | 6, _ =>
    obtain ⟨e1, v1, M1, rfl, H1, H⟩ := rme6_0 hS H
    obtain ⟨rfl, rfl⟩ := rsee_ok hR hw hc ht7 w3 H1
    obtain ⟨h1, h2⟩ := rme6_163 hS H
    exact ⟨h2, h1⟩
theorem rwei_loop (hw : wh4 P) (hK : okK P) (hc : inC P c) (ht7 : t < 7) (hh : inC P w.1) {x y : Int32} : ∀ (r : List Lnq) (M : Mem) (j : Nat) (i vv : Int32) (c7 : Option Value), RST T P M → RWC w t M → (T t).2.drop j = r → i.toInt = ((16 * t + j : Nat) : Int) → j ≤ (T t).2.length → Ev none e 200 59 [some (.ref 633), some (.int c), some (.int d), some (.int x), some (.int y), some (.int vv), some (.int i), c7] [] M v M' 0 0 → v = some (.int (weiL (T 0) P (T t) w c d r vv)) ∧ SQ M' ∧ FZ noF tuW noO M M' := by
  intro r
  induction r with
  | nil =>
    intro M j i vv c7 hR hW hd hi hj H
    have h1 := dr_nil hd
    have hl := ln_end hR hW.2.2.1 ht7
    rcases rwe_59 hR.1 H with ⟨_, _, h2, h3⟩ | ⟨a1, _⟩ | ⟨a1, _⟩
    · subst h3
      exact ⟨h2, hR.1, FZ.refl _⟩
    all_goals exact absurd (Int32.le_iff_toInt_le.mpr (by omega)) a1
  | cons l r ih =>
    intro M j i vv c7 hR hW hd hi hj H
    obtain ⟨h1, h2, h3⟩ := ln_at hd
    have hl := ln_end hR hW.2.2.1 ht7
    have h16 := ln_16 hR ht7
    have hi1 : (i + 1).toInt = ((16 * t + (j + 1) : Nat) : Int) := by
      rw [i32_p1 (by omega)]
      omega
    obtain ⟨k1, k2, k3⟩ := ln_get hR ht7 hi h1
    have hlw := ((hR.2.2.2 t ht7).1.2 l (List.mem_of_getElem? h1)).1
    unfold weiL
    rcases rwe_59 hR.1 H with ⟨a1, _⟩ | ⟨_, a2, _, _, e1, v1, M1, rfl, H1, H⟩ | ⟨_, a2, _, _, H⟩
    · have := Int32.le_iff_toInt_le.mp a1
      omega
    · rw [k1] at a2
      obtain ⟨rfl, q2, q3⟩ := rhold_ok hR hw hc ht7 hi h1 H1
      have hR1 := hR.tu q2 q3
      have hW1 := hW.tu q3
      rcases rwe_99 q2 H with ⟨b1, H⟩ | ⟨b1, _, _, e2, v2, M2, he, H2, H⟩
      · rw [bI_0] at b1
        rw [if_neg (fun q => by rw [q.2] at b1; cases b1)]
        obtain ⟨r1, r2, r3⟩ := ih M1 (j + 1) _ _ _ hR1 hW1 h2 hi1 (by omega) H
        exact ⟨r1, r2, q3.trans r3⟩
      · rw [bI_0, Bool.not_eq_false] at b1
        rw [if_pos ⟨a2, b1⟩]
        obtain ⟨n1, n2, n3⟩ := ln_get hR1 ht7 hi h1
        rw [n2] at H2
        rw [n3] at H
        obtain ⟨m0, m1⟩ := (hlw.2.2.1 a2).2
        obtain ⟨rfl, rfl⟩ := rmea_ok hR1 hw hK hc ht7 hW1 hh m0 m1 H2
        rcases rwe_125 q2 H with ⟨d1, _, H⟩ | ⟨d1, _, H⟩
        · rw [n2] at d1
          rw [if_pos d1]
          obtain ⟨r1, r2, r3⟩ := ih _ (j + 1) _ _ _ hR1 hW1 h2 hi1 (by omega) H
          exact ⟨r1, r2, q3.trans r3⟩
        · rw [n2] at d1
          rw [if_neg d1]
          obtain ⟨r1, r2, r3⟩ := ih _ (j + 1) _ _ _ hR1 hW1 h2 hi1 (by omega) H
          exact ⟨r1, r2, q3.trans r3⟩
    · rw [k1] at a2
      rw [if_neg (fun q => a2 q.1)]
      exact ih M (j + 1) _ _ _ hR hW h2 hi1 (by omega) H
theorem rwei_ok (hR : RST T P M) (hw : wh4 P) (hK : okK P) (hc : inC P c) (ht7 : t < 7) (hW : RWC w t M) (hh : inC P w.1) (H : Ev none e 200 0 [some (.ref 633), some (.int c), some (.int d), none, none, none, none, none] [] M v M' 0 0) : v = some (.int (weiP (T 0) P (T t) w c d)) ∧ SQ M' ∧ FZ noF tuW noO M M' := by
  unfold weiP dstP
  rcases rwe_0 hR.1 H with ⟨a1, H⟩ | ⟨a1, H⟩
  · rw [g195_ok hR, g196_ok hR, hW.2.1] at a1 H
    rw [if_neg (fun q => by rw [Int32.lt_iff_toInt_lt] at q; have := Int32.le_iff_toInt_le.mp a1; omega)]
    exact rwei_loop hw hK hc ht7 hh (T t).2 M 0 _ _ _ hR hW rfl (by rw [ln_pl (i := 0) (j := 0) hW.2.2.1 ht7]; omega) (Nat.zero_le _) H
  · rw [g195_ok hR, g196_ok hR, hW.2.1] at a1 H
    rw [if_pos (by rw [Int32.lt_iff_toInt_lt]; have : ¬ (acrP P c w.2.1).toInt ≤ (aloP P c w.2.1).toInt := fun q => a1 (Int32.le_iff_toInt_le.mpr q); omega)]
    exact rwei_loop hw hK hc ht7 hh (T t).2 M 0 _ _ _ hR hW rfl (by rw [ln_pl (i := 0) (j := 0) hW.2.2.1 ht7]; omega) (Nat.zero_le _) H
theorem rcho_loop (hw : wh4 P) (hK : okK P) (ht7 : t < 7) (hh : inC P w.1) : ∀ (n k : Nat) (M : Mem) (be le d : Int32) (c4 c5 : Option Value), RST T P M → RWC w t M → d.toInt = (k : Int) → k + n = 8 → -1 ≤ be.toInt → Ev none e 202 70 [some (.ref 633), some (.int be), some (.int le), some (.int d), c4, c5] [] M v M' 0 0 → v = some (.int (bstP (T 0) P (T t) w n d be le)) ∧ SQ M' ∧ FZ noF tuW noO M M' := by
  have e8 : (8 : Int32).toInt = 8 := rfl
  have e0 : (0 : Int32).toInt = 0 := rfl
  intro n
  induction n with
  | zero =>
    intro k M be le d c4 c5 hR hW hd hk hbe H
    rcases rch_70 hR.1 H with ⟨_, h1, h2⟩ | ⟨a1, _⟩ | ⟨a1, _⟩ | ⟨a1, _⟩
    · subst h2
      exact ⟨h1, hR.1, FZ.refl _⟩
    all_goals exact absurd (Int32.le_iff_toInt_le.mpr (by omega)) a1
  | succ n ih =>
    intro k M be le d c4 c5 hR hW hd hk hbe H
    have hd1 : (d + 1).toInt = ((k + 1 : Nat) : Int) := by
      rw [i32_p1 (by omega)]
      omega
    have hbs : G_194 M (zI M 633 34) d = besP P w.1 d := by rw [hW.1, g194_ok hR]
    unfold bstP
    have skip : ∀ c4 c5 M2, badB (T 0) P (T t) (besP P w.1 d) = true → RST T P M2 → RWC w t M2 → FZ noF tuW noO M M2 → Ev none e 202 70 [some (.ref 633), some (.int be), some (.int le), some (.int (d + 1)), c4, c5] [] M2 v M' 0 0 → v = some (.int (if badB (T 0) P (T t) (besP P w.1 d) = true ∨ (0 ≤ be ∧ le ≤ weiP (T 0) P (T t) w (besP P w.1 d) d) then bstP (T 0) P (T t) w n (d + 1) be le else bstP (T 0) P (T t) w n (d + 1) d (weiP (T 0) P (T t) w (besP P w.1 d) d))) ∧ SQ M' ∧ FZ noF tuW noO M M' := fun c4 c5 M2 hbad hR2 hW2 hF2 H => by
      rw [if_pos (Or.inl hbad)]
      obtain ⟨r1, r2, r3⟩ := ih (k + 1) M2 be le (d + 1) c4 c5 hR2 hW2 hd1 (by omega) hbe H
      exact ⟨r1, r2, hF2.trans r3⟩
    rcases rch_70 hR.1 H with ⟨a1, _⟩ | ⟨_, a2, H⟩ | ⟨_, a2, a3, H⟩ | ⟨_, a2, a3, e1, v1, M1, rfl, H1, H⟩
    · have := Int32.le_iff_toInt_le.mp a1
      omega
    · rw [hbs] at a2
      exact skip _ _ M (by unfold badB; rw [decide_eq_true a2, Bool.true_or]) hR hW (FZ.refl _) H
    · rw [hbs] at a2 a3
      have hin : inC P (besP P w.1 d) := by
        rcases besP_in (d := d) hw hh with q | q
        · rw [q] at a2
          exact absurd (by decide) a2
        · exact q
      rw [g148_ok hR hw hin, bI_0] at a3
      exact skip _ _ M (by unfold badB; rw [a3, Bool.not_false, Bool.true_or, Bool.or_true]) hR hW (FZ.refl _) H
    · rw [hbs] at a2 a3 H1 H
      have hin : inC P (besP P w.1 d) := by
        rcases besP_in (d := d) hw hh with q | q
        · rw [q] at a2
          exact absurd (by decide) a2
        · exact q
      rw [g148_ok hR hw hin, bI_0, Bool.not_eq_false] at a3
      obtain ⟨rfl, q2, q3⟩ := rmay_ok hR hw hin ht7 hW.2.2.1 H1
      have hR1 := hR.tu q2 q3
      have hW1 := hW.tu q3
      rcases rch_107 q2 H with ⟨b1, e2, v2, M2, he, H2, H⟩ | ⟨b1, H⟩
      · rw [bI_0] at b1
        have hbad : badB (T 0) P (T t) (besP P w.1 d) = false := by
          unfold badB
          rw [decide_eq_false a2, a3, b1]
          rfl
        obtain ⟨rfl, p2, p3⟩ := rwei_ok hR1 hw hK hin ht7 hW1 hh H2
        have hR2 := hR1.tu p2 p3
        have hW2 := hW1.tu p3
        have cont : ∀ (b2 l2 : Int32) (c4 c5 : Option Value), -1 ≤ b2.toInt → Ev none (e1 + 1) 202 70 [some (.ref 633), some (.int b2), some (.int l2), some (.int (d + 1)), c4, c5] [] M2 v M' 0 0 → v = some (.int (bstP (T 0) P (T t) w n (d + 1) b2 l2)) ∧ SQ M' ∧ FZ noF tuW noO M M' := fun b2 l2 c4 c5 hb2 H => by
          obtain ⟨r1, r2, r3⟩ := ih (k + 1) M2 b2 l2 (d + 1) c4 c5 hR2 hW2 hd1 (by omega) hb2 H
          exact ⟨r1, r2, (q3.trans p3).trans r3⟩
        rcases rch_120 p2 H with ⟨d1, H⟩ | ⟨d1, d2, H⟩ | ⟨d1, d2, H⟩
        · rw [if_neg (fun q => q.elim (fun q => by rw [hbad] at q; cases q) (fun q => by rw [i32_z] at d1; have := Int32.le_iff_toInt_le.mp q.1; omega))]
          exact cont d _ _ _ (by omega) H
        · rw [if_neg (fun q => q.elim (fun q => by rw [hbad] at q; cases q) (fun q => by rw [Int32.lt_iff_toInt_lt] at d2; have := Int32.le_iff_toInt_le.mp q.2; omega))]
          exact cont d _ _ _ (by omega) H
        · rw [if_pos (Or.inr ⟨Int32.le_iff_toInt_le.mpr (by rw [i32_z] at d1; omega), Int32.le_iff_toInt_le.mpr (by rw [Int32.lt_iff_toInt_lt] at d2; omega)⟩)]
          exact cont be le _ _ hbe H
      · rw [bI_0, Bool.not_eq_false] at b1
        exact skip _ _ M1 (by unfold badB; rw [b1, Bool.or_true, Bool.or_true]) hR1 hW1 q3 H
theorem rto_loop (hR : RST T P M) (hW : RWC w t M) : ∀ (n k : Nat) (d : Int32), d.toInt = (k : Int) → k + n = 8 → Ev none e 202 34 [some (.ref 633), some (.int d), none, none, none, none] [] M v M' 0 0 → (0 ≤ (toP P w.1 w.2.1 n d).toInt ∧ M' = M ∧ v = some (.int (toP P w.1 w.2.1 n d))) ∨ (toP P w.1 w.2.1 n d = -1 ∧ Ev none e 202 70 [some (.ref 633), some (.int (-1)), some (.int 0), some (.int 0), none, none] [] M v M' 0 0) := by
  have e8 : (8 : Int32).toInt = 8 := rfl
  intro n
  induction n with
  | zero =>
    intro k d hd hk H
    rcases rch_34 hR.1 H with ⟨_, H⟩ | ⟨a1, _⟩ | ⟨a1, _⟩
    · exact Or.inr ⟨rfl, H⟩
    all_goals exact absurd (Int32.le_iff_toInt_le.mpr (by omega)) a1
  | succ n ih =>
    intro k d hd hk H
    have hbs : G_194 M (zI M 633 34) d = besP P w.1 d := by rw [hW.1, g194_ok hR]
    unfold toP
    rcases rch_34 hR.1 H with ⟨a1, _⟩ | ⟨_, a2, h1, h2⟩ | ⟨_, a2, H⟩
    · have := Int32.le_iff_toInt_le.mp a1
      omega
    · rw [hbs, hW.2.1] at a2
      rw [if_pos a2]
      exact Or.inl ⟨by omega, h2, h1⟩
    · rw [hbs, hW.2.1] at a2
      rw [if_neg a2]
      exact ih (k + 1) (d + 1) (by rw [i32_p1 (by omega)]; omega) (by omega) H
theorem rcho_ok (hR : RST T P M) (hw : wh4 P) (hK : okK P) (ht7 : t < 7) (hW : RWC w t M) (hh : inC P w.1) (hg : 0 ≤ w.2.1.toInt) (H : Ev none e 202 0 [some (.ref 633), none, none, none, none, none] [] M v M' 0 0) : v = some (.int (choP (T 0) P (T t) w)) ∧ SQ M' ∧ FZ noF tuW noO M M' := by
  have z2 : (2 : Int32).toInt = 2 := rfl
  have far : (¬ acrP P w.1 w.2.1 < 2 ∨ ¬ aloP P w.1 w.2.1 < 2) → Ev none e 202 70 [some (.ref 633), some (.int (-1)), some (.int 0), some (.int 0), none, none] [] M v M' 0 0 → v = some (.int (choP (T 0) P (T t) w)) ∧ SQ M' ∧ FZ noF tuW noO M M' := fun hf H => by
    have hno : ∀ d, besP P w.1 d ≠ w.2.1 := fun d q => by
      obtain ⟨n1, n2⟩ := near_ok hw hh hg q
      rcases hf with h | h
      · exact h n1
      · exact h n2
    unfold choP
    rw [if_pos (by rw [toP_no hno]; decide)]
    exact rcho_loop hw hK ht7 hh 8 0 M (-1) 0 0 none none hR hW rfl rfl (by decide) H
  rcases rch_0 hR.1 H with ⟨a1, H⟩ | ⟨_, a1, H⟩ | ⟨_, _, H⟩
  · rw [g195_ok hR, hW.1, hW.2.1] at a1
    exact far (Or.inl (fun q => by rw [Int32.lt_iff_toInt_lt] at q; have := Int32.le_iff_toInt_le.mp a1; omega)) H
  · rw [g196_ok hR, hW.1, hW.2.1] at a1
    exact far (Or.inr (fun q => by rw [Int32.lt_iff_toInt_lt] at q; have := Int32.le_iff_toInt_le.mp a1; omega)) H
  · unfold choP
    rcases rto_loop hR hW 8 0 0 rfl rfl H with ⟨q1, q2, q3⟩ | ⟨q1, H⟩
    · subst q2
      rw [if_neg (fun q => by rw [i32_z] at q; omega)]
      exact ⟨q3, hR.1, FZ.refl _⟩
    · rw [if_pos (by rw [q1]; decide)]
      exact rcho_loop hw hK ht7 hh 8 0 M (-1) 0 0 none none hR hW rfl rfl (by decide) H
end RCH
