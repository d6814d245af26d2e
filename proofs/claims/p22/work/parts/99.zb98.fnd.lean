/-! THE CLASS FINDS ITS TOKENS -/
def TArr (M : Mem) (ts : List Tok) (k0 : Nat) : Prop := ∀ j t, ts[j]? = some t → rN M 4 (k0 + j) = t.1 ∧ (rN M 5 (k0 + j)).toInt = (t.2.1 : Int) ∧ (rN M 6 (k0 + j)).toInt = (t.2.2.1 : Int) ∧ (t.1 = 3 → rN M 7 (k0 + j) = t.2.2.2)
section FND
variable {e : Nat} {M M' : Mem} {v : Option Value}
theorem tk_len (hS : SQ M) : (zrw M 4).length = 401 ∧ (zrw M 5).length = 401 ∧ (zrw M 6).length = 401 ∧ (zrw M 7).length = 401 :=
  ⟨(hS.1.row qa_4 qw_4).2, (hS.1.row qa_5 qw_5).2, (hS.1.row qa_6 qw_6).2, (hS.1.row qa_7 qw_7).2⟩
theorem four_w {kn : Nat} {t a z w : Int32} (hS : SQ M) (hk : kn < 401) : SQ (wI (wI (wI (wI M 4 kn t) 5 kn a) 6 kn z) 7 kn w) ∧ FA [(3, 5)] [4, 5, 6, 7] M (wI (wI (wI (wI M 4 kn t) 5 kn a) 6 kn z) 7 kn w) ∧ rN (wI (wI (wI (wI M 4 kn t) 5 kn a) 6 kn z) 7 kn w) 4 kn = t ∧ rN (wI (wI (wI (wI M 4 kn t) 5 kn a) 6 kn z) 7 kn w) 5 kn = a ∧ rN (wI (wI (wI (wI M 4 kn t) 5 kn a) 6 kn z) 7 kn w) 6 kn = z ∧ rN (wI (wI (wI (wI M 4 kn t) 5 kn a) 6 kn z) 7 kn w) 7 kn = w ∧ ∀ b j, j ≠ kn → rN (wI (wI (wI (wI M 4 kn t) 5 kn a) 6 kn z) 7 kn w) b j = rN M b j := by
  have s1 : SQ (wI M 4 kn t) := hS.ki
  have s2 : SQ (wI (wI M 4 kn t) 5 kn a) := s1.ki
  have s3 : SQ (wI (wI (wI M 4 kn t) 5 kn a) 6 kn z) := s2.ki
  refine ⟨s3.ki, (((FA.wI (by decide)).trans (FA.wI (by decide))).trans (FA.wI (by decide))).trans (FA.wI (by decide)), ?_, ?_, ?_, ?_, fun b j hj => ?_⟩
  · rw [rN_wI_ne (fun q => absurd q.1 (by decide)), rN_wI_ne (fun q => absurd q.1 (by decide)), rN_wI_ne (fun q => absurd q.1 (by decide)), rN_wI_eq (by rw [(tk_len hS).1]; exact hk)]
  · rw [rN_wI_ne (fun q => absurd q.1 (by decide)), rN_wI_ne (fun q => absurd q.1 (by decide)), rN_wI_eq (by rw [(tk_len s1).2.1]; exact hk)]
  · rw [rN_wI_ne (fun q => absurd q.1 (by decide)), rN_wI_eq (by rw [(tk_len s2).2.2.1]; exact hk)]
  · rw [rN_wI_eq (by rw [(tk_len s3).2.2.2]; exact hk)]
  · rw [rN_wI_ne (fun q => hj q.2), rN_wI_ne (fun q => hj q.2), rN_wI_ne (fun q => hj q.2), rN_wI_ne (fun q => hj q.2)]
theorem TArr.nil {k0 : Nat} : TArr M [] k0 := fun j t h => by cases h
theorem TArr.cons {t : Tok} {ts : List Tok} {k0 : Nat} (h1 : rN M 4 k0 = t.1 ∧ (rN M 5 k0).toInt = (t.2.1 : Int) ∧ (rN M 6 k0).toInt = (t.2.2.1 : Int) ∧ (t.1 = 3 → rN M 7 k0 = t.2.2.2)) (h2 : TArr M ts (k0 + 1)) : TArr M (t :: ts) k0 := by
  intro j u hu
  cases j with
  | zero => cases hu; exact h1
  | succ j =>
    have h3 := h2 j u hu
    rw [show k0 + 1 + j = k0 + (j + 1) from by omega] at h3
    exact h3
theorem ft_end {n p kn : Nat} {E aq : Int32} {c0 c1 : Option Value} (hE : E.toInt = (mn4 n : Int)) (hp : p ≤ n) (hle : mn4 n ≤ p) (hS : SQ M) (hk : (zI M 3 5).toInt = (kn : Int)) (H : Ev none e 28 97 [some (.ref 3), some (.int E), some (.int aq), c0, c1] [] M v M' 0 0) : v = none ∧ SQ M' ∧ FA [(3, 5)] [4, 5, 6, 7] M M' ∧ (zI M' 3 5).toInt = ((kn + (tlS (bC M) n p).length : Nat) : Int) ∧ TArr M' (tlS (bC M) n p) kn ∧ ∀ b, b ∈ [4, 5, 6, 7] → ∀ j, j < kn → rN M' b j = rN M b j := by
  obtain ⟨⟨b1, b2⟩, -, -, h1, h2⟩ := ft_97 hS H
  have hkn : (zI M 3 5).toNatClampNeg = kn := cl_n hk
  rw [hkn] at h2
  rw [tlS_end hp hle]
  have s1 : SQ (wI M 4 kn 0) := hS.ki
  have s2 : SQ (wI (wI M 4 kn 0) 5 kn E) := s1.ki
  have s3 : SQ (wI (wI (wI M 4 kn 0) 5 kn E) 6 kn E) := s2.ki
  have hk2 : (zI M 3 5 + 1).toInt = ((kn + 1 : Nat) : Int) := by rw [i32_p1 (by omega)]; omega
  subst h2
  refine ⟨h1, s3.kf, (((FA.wI (by decide)).trans (FA.wI (by decide))).trans (FA.wI (by decide))).trans (FA.wF (by decide)), ?_, TArr.cons ⟨?_, ?_, ?_, fun q => absurd q (show ¬ (0 : Int32) = 3 by decide)⟩ TArr.nil, fun b _ j hj => ?_⟩
  · rw [fI_wF_eq s3.1 qa_3 qi_3_5]
    exact hk2
  · rw [rN_wF, rN_wI_ne (fun q => absurd q.1 (by decide)), rN_wI_ne (fun q => absurd q.1 (by decide)), rN_wI_eq (by rw [(tk_len hS).1]; omega)]
  · rw [rN_wF, rN_wI_ne (fun q => absurd q.1 (by decide)), rN_wI_eq (by rw [(tk_len s1).2.1]; omega)]
    exact hE
  · rw [rN_wF, rN_wI_eq (by rw [(tk_len s2).2.2.1]; omega)]
    exact hE
  · rw [rN_wF, rN_wI_ne (fun q => by omega), rN_wI_ne (fun q => by omega), rN_wI_ne (fun q => by omega)]
theorem ft_loop {n : Nat} {E : Int32} (hn2 : n ≤ 440) (hE : E.toInt = (mn4 n : Int)) : ∀ (m p kn : Nat) (M : Mem) (aq : Int32) (c0 c1 : Option Value), n - p ≤ m → p ≤ n → aq.toInt = (p : Int) → SQ M → (zI M 1 1).toInt = (n : Int) → (zI M 3 5).toInt = (kn : Int) → Ev none e 28 21 [some (.ref 3), some (.int E), some (.int aq), c0, c1] [] M v M' 0 0 → v = none ∧ SQ M' ∧ FA [(3, 5)] [4, 5, 6, 7] M M' ∧ (zI M' 3 5).toInt = ((kn + (tlS (bC M) n p).length : Nat) : Int) ∧ TArr M' (tlS (bC M) n p) kn ∧ ∀ b, b ∈ [4, 5, 6, 7] → ∀ j, j < kn → rN M' b j = rN M b j := by
  intro m
  induction m with
  | zero =>
    intro p kn M aq c0 c1 hm hp haq hS hn hk H
    have hmn := mn4_le (n := n)
    have hle : E ≤ aq := Int32.le_iff_toInt_le.mpr (by omega)
    rcases ft_21 hS H with ⟨h1, H⟩ | ⟨h1, _⟩ | ⟨h1, _⟩ | ⟨h1, _⟩
    · exact ft_end hE hp (by omega) hS hk H
    all_goals exact absurd hle h1
  | succ m ih =>
    intro p kn M aq c0 c1 hm hp haq hS hn hk H
    have hmn := mn4_le (n := n)
    have hb : rI M 2 aq = bC M p := rI_n haq
    rcases ft_21 hS H with ⟨h1, H⟩ | ⟨h1, h2, H⟩ | ⟨h1, h2, h3, H⟩ | ⟨h1, h2, h3, e1, v1, M1, he, H1, H⟩
    · have h1 := Int32.le_iff_toInt_le.mp h1
      exact ft_end hE hp (by omega) hS hk H
    · have h1 : ¬ mn4 n ≤ p := fun q => h1 (Int32.le_iff_toInt_le.mpr (by omega))
      have hz1 : (aq + 1).toInt = ((p + 1 : Nat) : Int) := by rw [i32_p1 (by omega)]; omega
      rw [hb] at h2
      rw [tlS_bl h1 (Or.inl h2)]
      exact ih (p + 1) kn M _ _ _ (by omega) (by omega) hz1 hS hn hk H
    · have h1 : ¬ mn4 n ≤ p := fun q => h1 (Int32.le_iff_toInt_le.mpr (by omega))
      have hz1 : (aq + 1).toInt = ((p + 1 : Nat) : Int) := by rw [i32_p1 (by omega)]; omega
      rw [hb] at h3
      rw [tlS_bl h1 (Or.inr h3)]
      exact ih (p + 1) kn M _ _ _ (by omega) (by omega) hz1 hS hn hk H
    · have h1 : ¬ mn4 n ≤ p := fun q => h1 (Int32.le_iff_toInt_le.mpr (by omega))
      rw [hb] at h2 h3
      have hbl : ¬ (bC M p = 32 ∨ bC M p = 10) := fun q => q.elim h2 h3
      obtain ⟨z, hz, rfl, ⟨b1, b2⟩, hM1⟩ := ta_all hS hn hn2 haq (by omega) H1
      have hkn : (zI M 3 5).toNatClampNeg = kn := cl_n hk
      rw [hkn] at hM1
      obtain ⟨S1, F1, r4, r5, r6, r7, ro⟩ := four_w (kn := kn) (t := (tokS (bC M) n p).1) (a := aq) (z := z) (w := (tokS (bC M) n p).2.2.2) hS (by omega)
      rw [← hM1] at S1 F1 r4 r5 r6 r7 ro
      have hlt := tokS_lt (B := bC M) (n := n) (p := p)
      have hle := tokS_le (B := bC M) (n := n) (p := p) (by omega)
      have hk1 : zI M1 3 5 = zI M 3 5 := by rw [hM1]; exact fI_wI.trans (fI_wI.trans (fI_wI.trans fI_wI))
      have hz1 : (aq + 1).toInt = ((p + 1 : Nat) : Int) := by rw [i32_p1 (by omega)]; omega
      have hmx : (if aq + 1 < z then z else aq + 1) = z := by
        by_cases hq : aq + 1 < z
        · rw [if_pos hq]
        · rw [if_neg hq]
          rw [Int32.lt_iff_toInt_lt] at hq
          exact Int32.toInt_inj.mp (by omega)
      have hk2 : (zI M 3 5 + 1).toInt = ((kn + 1 : Nat) : Int) := by rw [i32_p1 (by omega)]; omega
      have hix : rI M1 4 ((zI M1 3 5 + 1) - 1) = (tokS (bC M) n p).1 := by
        rw [hk1, rI_n (p := kn) (by rw [i32_sub (by rw [hk2]; have o : (1 : Int32).toInt = 1 := rfl; omega) (by rw [hk2]; have o : (1 : Int32).toInt = 1 := rfl; omega), hk2]; have o : (1 : Int32).toInt = 1 := rfl; omega)]
        exact r4
      have S2 : SQ (wF M1 3 5 (zI M1 3 5 + 1)) := S1.kf
      have F2 : FA [(3, 5)] [4, 5, 6, 7] M (wF M1 3 5 (zI M1 3 5 + 1)) := F1.trans (FA.wF (by decide))
      have k2 : (zI (wF M1 3 5 (zI M1 3 5 + 1)) 3 5).toInt = ((kn + 1 : Nat) : Int) := by
        rw [fI_wF_eq S1.1 qa_3 qi_3_5, hk1]
        exact hk2
      have hbb : bC (wF M1 3 5 (zI M1 3 5 + 1)) = bC M := by
        funext k
        exact F2.rn (by decide)
      have hat : (tokS (bC M) n p).2.1 = p := tokS_at
      have H : Ev none e 28 60 [some (.ref 3), some (.int E), some (.int aq), some (.int (rI M 2 aq)), some (.int (aq + 1))] [.int z, .int (aq + 1)] M1 v M' 0 0 := H
      rcases ft_60 S1 H with ⟨h4, h5, h6⟩ | ⟨h4, H⟩
      · rw [hix] at h4
        rw [tlS_no h1 hbl h4]
        subst h6
        refine ⟨h5, S2, F2, by rw [k2]; rfl, TArr.cons ⟨by rw [rN_wF]; exact r4, by rw [rN_wF, r5, hat]; exact haq, by rw [rN_wF, r6]; exact hz, fun _ => by rw [rN_wF]; exact r7⟩ TArr.nil, fun b _ j hj => ?_⟩
        rw [rN_wF]
        exact ro b j (by omega)
      · rw [hix] at h4
        rw [tlS_tok h1 hbl h4]
        rw [hmx] at H
        obtain ⟨g1, g2, g3, g4, g5, g6⟩ := ih (tokS (bC M) n p).2.2.1 (kn + 1) _ z _ _ (by omega) hle hz S2 (by rw [fI_wF_ne (fun q => absurd q.1 (by decide)), hM1, fI_wI, fI_wI, fI_wI, fI_wI]; exact hn) k2 H
        rw [hbb] at g4 g5
        refine ⟨g1, g2, F2.trans g3, by rw [g4, List.length_cons]; congr 1; omega, TArr.cons ⟨?_, ?_, ?_, fun _ => ?_⟩ g5, fun b hb2 j hj => ?_⟩
        · rw [g6 4 (by decide) kn (by omega), rN_wF]; exact r4
        · rw [g6 5 (by decide) kn (by omega), rN_wF, r5, hat]; exact haq
        · rw [g6 6 (by decide) kn (by omega), rN_wF, r6]; exact hz
        · rw [g6 7 (by decide) kn (by omega), rN_wF]; exact r7
        · rw [g6 b hb2 j (by omega), rN_wF]
          exact ro b j (by omega)
theorem ft_all {n : Nat} (hS : SQ M) (hn : (zI M 1 1).toInt = (n : Int)) (hn2 : n ≤ 440) (H : Ev none e 28 0 [some (.ref 3), none, none, none, none] [] M v M' 0 0) : v = none ∧ SQ M' ∧ FA [(3, 5)] [4, 5, 6, 7] M M' ∧ (zI M' 3 5).toInt = ((tlS (bC M) n 0).length : Int) ∧ TArr M' (tlS (bC M) n 0) 0 := by
  have H := ft_0 hS H
  have hE : (if 400 < zI M 1 1 then 400 else zI M 1 1 : Int32).toInt = (mn4 n : Int) := by
    unfold mn4
    have o : (400 : Int32).toInt = 400 := rfl
    by_cases h : 400 < zI M 1 1
    · rw [if_pos h]
      rw [Int32.lt_iff_toInt_lt] at h
      rw [if_pos (by omega)]
      rfl
    · rw [if_neg h]
      rw [Int32.lt_iff_toInt_lt] at h
      rw [if_neg (by omega)]
      exact hn
  have S1 : SQ (wF M 3 5 0) := hS.kf
  have F1 : FA [(3, 5)] [4, 5, 6, 7] M (wF M 3 5 0) := FA.wF (by decide)
  have hbb : bC (wF M 3 5 0) = bC M := by
    funext k
    exact F1.rn (by decide)
  obtain ⟨g1, g2, g3, g4, g5, _⟩ := ft_loop hn2 hE n 0 0 _ 0 none none (by omega) (by omega) rfl S1 (by rw [fI_wF_ne (fun q => absurd q.1 (by decide))]; exact hn) (by rw [fI_wF_eq hS.1 qa_3 qi_3_5]; rfl) H
  rw [hbb] at g4 g5
  exact ⟨g1, g2, F1.trans g3, by rw [g4, Nat.zero_add], g5⟩
end FND
