/-! THE REFERENCE'S NEXT TOKEN -/
noncomputable def bR (M : Mem) : Nat → Int32 := fun k => rN M 634 k &&& 255
noncomputable def slS (B : Nat → Int32) (p k : Nat) : List Int32 := (List.range k).map (fun i => B (p + i))
theorem slS_succ {B : Nat → Int32} {p k : Nat} : slS B p (k + 1) = slS B p k ++ [B (p + k)] := by
  unfold slS
  rw [List.range_succ, List.map_append]
  rfl
theorem slS_len {B : Nat → Int32} {p k : Nat} : (slS B p k).length = k := by
  unfold slS
  rw [List.length_map, List.length_range]
noncomputable def pk1 (w : Int64) (c : Int32) : Int64 := (w <<< ((8 : Int32).toInt64 &&& 63)) ||| (c.toInt64)
noncomputable def pkF (l : List Int32) : Int64 := l.foldl pk1 0
/-- the reference's token is this one, and behind it come these -/
def RTk (B : Nat → Int32) (n : Nat) (M : Mem) (ts : List Tok) : Prop := match ts with
  | [] => False
  | t :: r => (zI M 633 23).toInt = (t.2.1 : Int) ∧ ((t.1 = 0 ∧ zI M 633 22 = (if 400 < n then 4 else 0)) ∨ (t.1 = 1 ∧ zI M 633 22 = 4) ∨ ((t.1 ≠ 0 ∧ t.1 ≠ 1) ∧ ((t.1 = 2 ∧ zI M 633 22 = 1 ∧ t.2.2.1 ≤ t.2.1 + 6 ∧ fL M 633 31 = pkF (slS B t.2.1 (t.2.2.1 - t.2.1))) ∨ (t.1 = 3 ∧ zI M 633 22 = 2 ∧ zI M 633 25 = t.2.2.2) ∨ ((t.1 = 59 ∨ t.1 = 40 ∨ t.1 = 41 ∨ t.1 = 60 ∨ t.1 = 61 ∨ t.1 = 62) ∧ zI M 633 22 = 3 ∧ zI M 633 25 = t.1)) ∧ t.2.2.1 ≤ n ∧ (zI M 633 4).toInt = (t.2.2.1 : Int) ∧ r = tlS B n t.2.2.1))
abbrev fN : List (Nat × Nat) := [(633, 4), (633, 22), (633, 23), (633, 24), (633, 25), (633, 31)]
section NXT
variable {e : Nat} {M M' : Mem} {v : Option Value} {n : Nat}
theorem peq_lt {p : Nat} (hn : (zI M 633 3).toInt = (n : Int)) (hp : (zI M 633 4).toInt = (p : Int)) (h : p < n) : G_159 M = bR M p := by
  unfold G_159
  rw [if_neg (fun q => by have := Int32.le_iff_toInt_le.mp q; omega), rI_n hp]
  rfl
theorem peq_ge {p : Nat} (hn : (zI M 633 3).toInt = (n : Int)) (hp : (zI M 633 4).toInt = (p : Int)) (h : n ≤ p) : G_159 M = -1 := by
  unfold G_159
  rw [if_pos (Int32.le_iff_toInt_le.mpr (by omega))]
theorem FB.bR {F : List (Nat × Nat)} {W : List Nat} (h : FB F W M M') (hn : 634 ∉ W) : bR M' = bR M := by
  funext k
  show rN M' 634 k &&& 255 = rN M 634 k &&& 255
  rw [h.rn hn]
/-- the class's count of a run, beside the reference's -/
def JQ (sm : Int32) (i : Nat) (a : Acc) (al nu sp : Int32) : Prop := a.1.toInt + a.2.1.toInt = (i : Int) ∧ 0 ≤ a.1.toInt ∧ 0 ≤ a.2.1.toInt ∧ sp.toInt = (i : Int) ∧ ((al = 1 ∧ (if sm = 0 then a.1 = 0 else a.2.1 = 0)) ∨ (al = 0 ∧ ¬ (if sm = 0 then a.1 = 0 else a.2.1 = 0))) ∧ (sm = 0 → a.1 = 0 → a.2.2 = nu) ∧ (1 ≤ i → (if sm = 0 then 1 ≤ a.2.1.toInt else 1 ≤ a.1.toInt))
theorem smI_01 (c : Int32) : smI c = 0 ∨ smI c = 1 := by
  unfold smI
  split
  · exact Or.inl rfl
  · split
    · exact Or.inl rfl
    · exact Or.inr rfl
theorem JQ.step {sm : Int32} {i : Nat} {a : Acc} {al nu sp c : Int32} (h : JQ sm i a al nu sp) (hi : i ≤ 440) (hs : sm = 0 ∨ sm = 1) (h0 : i = 0 → smI c = sm) : JQ sm (i + 1) (cs1 c a) (if al = 0 then 0 else if smI c = sm then 1 else 0) (if 3 ≤ sp then nu else ((10 * nu) + c) - 48) (sp + 1) := by
  obtain ⟨h1, h2, h3, h4, h5, h6, h8⟩ := h
  have o1 : (1 : Int32).toInt = 1 := rfl
  have z0 : (0 : Int32).toInt = 0 := rfl
  have l1 : (a.1 + 1).toInt = a.1.toInt + 1 := i32_p1 (by omega)
  have d1 : (a.2.1 + 1).toInt = a.2.1.toInt + 1 := i32_p1 (by omega)
  have s1 : (sp + 1).toInt = sp.toInt + 1 := i32_p1 (by omega)
  have hl0 : ¬ a.1 + 1 = 0 := fun q => by rw [q] at l1; omega
  have hd0 : ¬ a.2.1 + 1 = 0 := fun q => by rw [q] at d1; omega
  unfold cs1
  rcases smI_01 c with hc | hc
  · rw [if_pos hc]
    refine ⟨by dsimp only; omega, h2, by dsimp only; omega, by omega, ?_, fun q1 q2 => ?_, fun _ => ?_⟩
    · dsimp only
      rcases hs with rfl | rfl
      · rw [if_pos rfl, hc, if_pos rfl]
        rw [if_pos rfl] at h5
        rcases h5 with ⟨rfl, h5⟩ | ⟨rfl, h5⟩
        · exact Or.inl ⟨rfl, h5⟩
        · exact Or.inr ⟨rfl, h5⟩
      · rw [if_neg (by decide : ¬ (1 : Int32) = 0), hc, if_neg (by decide : ¬ (0 : Int32) = 1)]
        refine Or.inr ⟨?_, hd0⟩
        split <;> rfl
    · dsimp only at q2 ⊢
      have h7 := h6 q1 q2
      rw [h7]
      have hl : a.1.toInt = 0 := by rw [q2]; rfl
      have o3 : (3 : Int32).toInt = 3 := rfl
      by_cases hq : 3 ≤ sp
      · rw [if_pos hq, if_pos]
        rw [Int32.le_iff_toInt_le] at hq
        rw [Int32.lt_iff_toInt_lt]
        omega
      · rw [if_neg hq, if_neg]
        rw [Int32.le_iff_toInt_le] at hq
        rw [Int32.lt_iff_toInt_lt]
        omega
    · dsimp only
      rcases hs with rfl | rfl
      · rw [if_pos rfl]
        omega
      · rw [if_neg (by decide : ¬ (1 : Int32) = 0)]
        by_cases hi0 : i = 0
        · have h9 := h0 hi0
          rw [hc] at h9
          exact absurd h9 (by decide)
        · have h9 := h8 (by omega)
          rw [if_neg (by decide : ¬ (1 : Int32) = 0)] at h9
          exact h9
  · have hc0 : ¬ smI c = 0 := by rw [hc]; decide
    rw [if_neg hc0]
    refine ⟨by dsimp only; omega, by dsimp only; omega, h3, by omega, ?_, fun q1 q2 => absurd q2 hl0, fun _ => ?_⟩
    rotate_left
    · dsimp only
      rcases hs with rfl | rfl
      · rw [if_pos rfl]
        by_cases hi0 : i = 0
        · have h9 := h0 hi0
          rw [hc] at h9
          exact absurd h9 (by decide)
        · have h9 := h8 (by omega)
          rw [if_pos rfl] at h9
          exact h9
      · rw [if_neg (by decide : ¬ (1 : Int32) = 0)]
        omega
    dsimp only
    rcases hs with rfl | rfl
    · rw [if_pos rfl, hc, if_neg (by decide : ¬ (1 : Int32) = 0)]
      refine Or.inr ⟨?_, hl0⟩
      split <;> rfl
    · rw [if_neg (by decide : ¬ (1 : Int32) = 0), hc, if_pos rfl]
      rw [if_neg (by decide : ¬ (1 : Int32) = 0)] at h5
      rcases h5 with ⟨rfl, h5⟩ | ⟨rfl, h5⟩
      · exact Or.inl ⟨rfl, h5⟩
      · exact Or.inr ⟨rfl, h5⟩
/-- one byte of a run -/
theorem nx_byte2 {p p0 i : Nat} {c sm al : Int32} {a : Acc} (hS : SQ M) (hn : (zI M 633 3).toInt = (n : Int)) (hn2 : n ≤ 440) (hp : (zI M 633 4).toInt = (p : Int)) (hlt : p < n) (hpi : p = p0 + i) (hJ : JQ sm i a al (zI M 633 25) (zI M 633 24)) (hw : fL M 633 31 = pkF ((slS (bR M) p0 i).take 6)) (hs : sm = 0 ∨ sm = 1) (h0 : i = 0 → smI (bR M p) = sm) (H : Ev none e 162 219 [some (.ref 633), some (.int c), some (.int sm), some (.int (if al = 0 then 0 else if smI (bR M p) = sm then 1 else 0))] [] M v M' 0 0) : ∃ M1, Ev none e 162 178 [some (.ref 633), some (.int c), some (.int sm), some (.int (if al = 0 then 0 else if smI (bR M p) = sm then 1 else 0))] [] M1 v M' 0 0 ∧ SQ M1 ∧ FB fN [] M M1 ∧ (zI M1 633 4).toInt = ((p + 1 : Nat) : Int) ∧ JQ sm (i + 1) (cs1 (bR M p) a) (if al = 0 then 0 else if smI (bR M p) = sm then 1 else 0) (zI M1 633 25) (zI M1 633 24) ∧ fL M1 633 31 = pkF ((slS (bR M) p0 (i + 1)).take 6) ∧ zI M1 633 23 = zI M 633 23 := by
  have hsp := hJ.2.2.2.1
  have o6 : (6 : Int32).toInt = 6 := rfl
  have A : ∃ M1, Ev none e 162 245 [some (.ref 633), some (.int c), some (.int sm), some (.int (if al = 0 then 0 else if smI (bR M p) = sm then 1 else 0))] [] M1 v M' 0 0 ∧ SQ M1 ∧ FB fN [] M M1 ∧ fL M1 633 31 = pkF ((slS (bR M) p0 (i + 1)).take 6) ∧ zI M1 633 4 = zI M 633 4 ∧ zI M1 633 24 = zI M 633 24 ∧ zI M1 633 25 = zI M 633 25 ∧ zI M1 633 23 = zI M 633 23 := by
    rcases nx_219 hS H with ⟨h1, H⟩ | ⟨h1, H⟩
    · rw [Int32.le_iff_toInt_le] at h1
      refine ⟨M, H, hS, FB.refl M, ?_, rfl, rfl, rfl, rfl⟩
      rw [hw, slS_succ, List.take_append_of_le_length (by rw [slS_len]; omega)]
    · rw [Int32.le_iff_toInt_le] at h1
      refine ⟨_, H, hS.kg, FB.wG (by decide), ?_, fI_wG, fI_wG, fI_wG, fI_wG⟩
      rw [fL_wG_eq hS.1 qa_633 ql_61_31, hw, peq_lt hn hp hlt, slS_succ, List.take_of_length_le (by rw [slS_len]; omega), List.take_of_length_le (by rw [List.length_append, slS_len]; show i + 1 ≤ 6; omega)]
      unfold pkF
      rw [List.foldl_append, hpi]
      rfl
  obtain ⟨M1, H, S1, F1, w1, g1, g2, g3, g4⟩ := A
  have hn1 : (zI M1 633 3).toInt = (n : Int) := by rw [F1.fi (by decide)]; exact hn
  have hb1 : bR M1 = bR M := F1.bR (by decide)
  have B : ∃ M2, Ev none e 162 272 [some (.ref 633), some (.int c), some (.int sm), some (.int (if al = 0 then 0 else if smI (bR M p) = sm then 1 else 0))] [] M2 v M' 0 0 ∧ SQ M2 ∧ FB fN [] M M2 ∧ fL M2 633 31 = pkF ((slS (bR M) p0 (i + 1)).take 6) ∧ zI M2 633 4 = zI M 633 4 ∧ zI M2 633 24 = zI M 633 24 ∧ zI M2 633 25 = (if 3 ≤ zI M 633 24 then zI M 633 25 else ((10 * zI M 633 25) + bR M p) - 48) ∧ zI M2 633 23 = zI M 633 23 := by
    rcases nx_245 S1 H with ⟨h1, H⟩ | ⟨h1, H⟩
    · rw [g2] at h1
      exact ⟨M1, H, S1, F1, w1, g1, g2, by rw [if_pos h1]; exact g3, g4⟩
    · rw [g2] at h1
      refine ⟨_, H, S1.kf, F1.trans (FB.wF (by decide)), by rw [fL_wF]; exact w1, by rw [fI_wF_ne (fun q => absurd q.2 (by decide))]; exact g1, by rw [fI_wF_ne (fun q => absurd q.2 (by decide))]; exact g2, ?_, by rw [fI_wF_ne (fun q => absurd q.2 (by decide))]; exact g4⟩
      rw [fI_wF_eq S1.1 qa_633 qi_61_25, if_neg h1, g3, peq_lt hn1 (by rw [g1]; exact hp) hlt, hb1]
  obtain ⟨M2, H, S2, F2, w2, k1, k2, k3, k4⟩ := B
  have H := nx_272 S2 H
  have e24 : zI (wF (wF M2 633 24 ((zI M2 633 24) + 1)) 633 4 ((zI M2 633 4) + 1)) 633 24 = zI M 633 24 + 1 := by
    rw [fI_wF_ne (fun q => absurd q.2 (by decide)), fI_wF_eq S2.1 qa_633 qi_61_24, k2]
  have e25 : zI (wF (wF M2 633 24 ((zI M2 633 24) + 1)) 633 4 ((zI M2 633 4) + 1)) 633 25 = (if 3 ≤ zI M 633 24 then zI M 633 25 else ((10 * zI M 633 25) + bR M p) - 48) := by
    rw [fI_wF_ne (fun q => absurd q.2 (by decide)), fI_wF_ne (fun q => absurd q.2 (by decide)), k3]
  refine ⟨_, H, S2.kf.kf, (F2.trans (FB.wF (by decide))).trans (FB.wF (by decide)), ?_, ?_, by rw [fL_wF, fL_wF]; exact w2, by rw [fI_wF_ne (fun q => absurd q.2 (by decide)), fI_wF_ne (fun q => absurd q.2 (by decide))]; exact k4⟩
  · rw [fI_wF_eq S2.kf.1 qa_633 qi_61_4, k1, i32_p1 (by omega)]
    omega
  · rw [e24, e25]
    exact hJ.step (by omega) hs h0
/-- a run -/
theorem nx_loop {p0 : Nat} {c sm : Int32} (hn2 : n ≤ 440) (hs : sm = 0 ∨ sm = 1) : ∀ (f p i : Nat) (M : Mem) (al : Int32) (a : Acc), p + f = n → p = p0 + i → (i = 0 → smI (bR M p) = sm) → SQ M → (zI M 633 3).toInt = (n : Int) → (zI M 633 4).toInt = (p : Int) → JQ sm i a al (zI M 633 25) (zI M 633 24) → fL M 633 31 = pkF ((slS (bR M) p0 i).take 6) → Ev none e 162 178 [some (.ref 633), some (.int c), some (.int sm), some (.int al)] [] M v M' 0 0 → ∃ M1 al1, Ev none e 162 295 [some (.ref 633), some (.int c), some (.int sm), some (.int al1)] [] M1 v M' 0 0 ∧ SQ M1 ∧ FB fN [] M M1 ∧ (zI M1 633 4).toInt = ((p + rlS (bR M) f p : Nat) : Int) ∧ JQ sm (i + rlS (bR M) f p) (cfS (bR M) (rlS (bR M) f p) p a) al1 (zI M1 633 25) (zI M1 633 24) ∧ fL M1 633 31 = pkF ((slS (bR M) p0 (i + rlS (bR M) f p)).take 6) ∧ zI M1 633 23 = zI M 633 23 := by
  intro f
  induction f with
  | zero =>
    intro p i M al a hf hpi h0 hS hn hp hJ hw H
    have hpk := peq_ge hn hp (by omega)
    have e1 : G_160 M (G_159 M) = 0 := by rw [hpk]; rfl
    have e2 : G_161 M (G_159 M) = 0 := by rw [hpk]; rfl
    rcases nx_178 hS H with ⟨h1, h2, H⟩ | ⟨_, h2, _⟩ | ⟨_, h2, _⟩ | ⟨_, h2, _⟩ | ⟨h2, _⟩ | ⟨h2, _⟩ | ⟨h2, _⟩
    · exact ⟨M, al, H, hS, FB.refl M, hp, hJ, hw, rfl⟩
    · exact absurd e2 h2
    · exact absurd e2 h2
    · exact absurd e2 h2
    · exact absurd e1 h2
    · exact absurd e1 h2
    · exact absurd e1 h2
  | succ f ih =>
    intro p i M al a hf hpi h0 hS hn hp hJ hw H
    have hpk := peq_lt hn hp (by omega)
    have e1 : G_160 M (G_159 M) = smI (bR M p) := by rw [hpk]; rfl
    have e2 : G_161 M (G_159 M) = dgI (bR M p) := by rw [hpk]; rfl
    have key : ¬ (smI (bR M p) = 0 ∧ dgI (bR M p) = 0) → Ev none e 162 219 [some (.ref 633), some (.int c), some (.int sm), some (.int (if al = 0 then 0 else if smI (bR M p) = sm then 1 else 0))] [] M v M' 0 0 → ∃ M1 al1, Ev none e 162 295 [some (.ref 633), some (.int c), some (.int sm), some (.int al1)] [] M1 v M' 0 0 ∧ SQ M1 ∧ FB fN [] M M1 ∧ (zI M1 633 4).toInt = ((p + rlS (bR M) (f + 1) p : Nat) : Int) ∧ JQ sm (i + rlS (bR M) (f + 1) p) (cfS (bR M) (rlS (bR M) (f + 1) p) p a) al1 (zI M1 633 25) (zI M1 633 24) ∧ fL M1 633 31 = pkF ((slS (bR M) p0 (i + rlS (bR M) (f + 1) p)).take 6) ∧ zI M1 633 23 = zI M 633 23 := by
      intro hx H
      obtain ⟨M2, H, S2, F2, p2, J2, w2, q2⟩ := nx_byte2 hS hn hn2 hp (by omega) hpi hJ hw hs h0 H
      have hb2 : bR M2 = bR M := F2.bR (by decide)
      obtain ⟨M3, al3, H, S3, F3, p3, J3, w3, q3⟩ := ih (p + 1) (i + 1) M2 _ _ (by omega) (by omega) (fun q => absurd q (Nat.succ_ne_zero i)) S2 (by rw [F2.fi (by decide)]; exact hn) p2 J2 (by rw [hb2]; exact w2) H
      rw [hb2] at p3 J3 w3
      have hr : rlS (bR M) (f + 1) p = rlS (bR M) f (p + 1) + 1 := by
        conv => lhs; unfold rlS
        rw [if_neg hx]
      rw [hr]
      refine ⟨M3, al3, H, S3, F2.trans F3, by rw [p3]; congr 1; omega, ?_, ?_, q3.trans q2⟩
      · rw [show i + (rlS (bR M) f (p + 1) + 1) = i + 1 + rlS (bR M) f (p + 1) from by omega]
        exact J3
      · rw [show i + (rlS (bR M) f (p + 1) + 1) = i + 1 + rlS (bR M) f (p + 1) from by omega]
        exact w3
    rcases nx_178 hS H with ⟨h1, h2, H⟩ | ⟨h1, h2, h3, H⟩ | ⟨h1, h2, h3, h4, H⟩ | ⟨h1, h2, h3, h4, H⟩ | ⟨h1, h3, H⟩ | ⟨h1, h3, h4, H⟩ | ⟨h1, h3, h4, H⟩
    · rw [e1] at h1
      rw [e2] at h2
      have hr : rlS (bR M) (f + 1) p = 0 := by
        unfold rlS
        rw [if_pos ⟨h1, h2⟩]
      rw [hr]
      exact ⟨M, al, H, hS, FB.refl M, hp, hJ, hw, rfl⟩
    · rw [e2] at h2
      exact key (fun q => h2 q.2) (by rw [if_pos h3]; exact H)
    · rw [e2] at h2
      rw [e1] at h4
      exact key (fun q => h2 q.2) (by rw [if_neg h3, if_pos h4]; exact H)
    · rw [e2] at h2
      rw [e1] at h4
      exact key (fun q => h2 q.2) (by rw [if_neg h3, if_neg h4]; exact H)
    · rw [e1] at h1
      exact key (fun q => h1 q.1) (by rw [if_pos h3]; exact H)
    · rw [e1] at h1 h4
      exact key (fun q => h1 q.1) (by rw [if_neg h3, if_pos h4]; exact H)
    · rw [e1] at h1 h4
      exact key (fun q => h1 q.1) (by rw [if_neg h3, if_neg h4]; exact H)
/-- a token of letters and digits -/
theorem nx_word {p : Nat} {c : Int32} (hn2 : n ≤ 440) (hS : SQ M) (hn : (zI M 633 3).toInt = (n : Int)) (hp : (zI M 633 4).toInt = (p : Int)) (hlt : ¬ mn4 n ≤ p) (hc : c = bR M p) (hb : ¬ (bR M p = 32 ∨ bR M p = 10)) (ha : ¬ (smI (bR M p) = 0 ∧ dgI (bR M p) = 0)) (h23 : (zI M 633 23).toInt = (p : Int)) (h24 : zI M 633 24 = 0) (H : Ev none e 162 161 [some (.ref 633), some (.int c), none, none] [] M v M' 0 0) : v = none ∧ SQ M' ∧ FB fN [] M M' ∧ RTk (bR M) n M' (tlS (bR M) n p) := by
  have hmn := mn4_le (n := n)
  have H := nx_161 hS H
  have S1 : SQ (wF (wG M 633 31 0) 633 25 0) := hS.kg.kf
  have F1 : FB fN [] M (wF (wG M 633 31 0) 633 25 0) := (FB.wG (by decide)).trans (FB.wF (by decide))
  have hb1 : bR (wF (wG M 633 31 0) 633 25 0) = bR M := F1.bR (by decide)
  have e24 : zI (wF (wG M 633 31 0) 633 25 0) 633 24 = 0 := by rw [fI_wF_ne (fun q => absurd q.2 (by decide)), fI_wG]; exact h24
  have e25 : zI (wF (wG M 633 31 0) 633 25 0) 633 25 = 0 := fI_wF_eq hS.kg.1 qa_633 qi_61_25
  have e31 : fL (wF (wG M 633 31 0) 633 25 0) 633 31 = 0 := by rw [fL_wF]; exact fL_wG_eq hS.1 qa_633 ql_61_31
  have hsm : G_160 M c = smI (bR M p) := by rw [hc]; rfl
  rw [hsm] at H
  obtain ⟨M2, al, H, S2, F2, p2, J2, w2, q2⟩ := nx_loop (p0 := p) hn2 (smI_01 _) (n - p) p 0 _ 1 (0, 0, 0) (by omega) rfl (fun _ => by rw [hb1]) S1 (by rw [F1.fi (by decide)]; exact hn) (by rw [fI_wF_ne (fun q => absurd q.2 (by decide)), fI_wG]; exact hp) (by
    rw [e24, e25]
    exact ⟨rfl, by decide, by decide, rfl, Or.inl ⟨rfl, by split <;> rfl⟩, fun _ _ => rfl, fun q => absurd q (by omega)⟩) (by rw [e31]; rfl) H
  rw [hb1] at p2 J2 w2
  rw [Nat.zero_add] at J2 w2
  have hrl := rlS_le (B := bR M) (n - p) p
  have hr0 : rlS (bR M) (n - p) p ≠ 0 := by
    obtain ⟨f, hf⟩ : ∃ f, n - p = f + 1 := ⟨n - p - 1, by omega⟩
    rw [hf]
    unfold rlS
    rw [if_neg ha]
    exact Nat.succ_ne_zero _
  have hT : tokS (bR M) n p = (tyA (cfS (bR M) (rlS (bR M) (n - p) p) p (0, 0, 0)), p, p + rlS (bR M) (n - p) p, (cfS (bR M) (rlS (bR M) (n - p) p) p (0, 0, 0)).2.2) := by
    unfold tokS
    rw [if_neg hr0]
  have h23' : (zI M2 633 23).toInt = (p : Int) := by
    rw [q2, fI_wF_ne (fun q => absurd q.2 (by decide)), fI_wG]
    exact h23
  generalize hk : rlS (bR M) (n - p) p = k at *
  generalize cfS (bR M) k p (0, 0, 0) = a at *
  obtain ⟨j1, j2, j3, j4, j5, j6, j7⟩ := J2
  have j7 := j7 (by omega)
  have z0 : (0 : Int32).toInt = 0 := rfl
  have o3 : (3 : Int32).toInt = 3 := rfl
  have o6 : (6 : Int32).toInt = 6 := rfl
  have F3 : ∀ x, FB fN [] M (wF M2 633 22 x) := fun x => (F1.trans F2).trans (FB.wF (by decide))
  have g22 : ∀ x, zI (wF M2 633 22 x) 633 22 = x := fun x => fI_wF_eq S2.1 qa_633 qi_61_22
  have g23 : ∀ x, (zI (wF M2 633 22 x) 633 23).toInt = (p : Int) := fun x => by rw [fI_wF_ne (fun q => absurd q.2 (by decide))]; exact h23'
  have no : tyA a = 1 → zI M' 633 22 = 4 → (zI M' 633 23).toInt = (p : Int) → RTk (bR M) n M' (tlS (bR M) n p) := fun q1 q2 q3 => by
    have ht : (tokS (bR M) n p).1 = 1 := by rw [hT]; exact q1
    rw [tlS_no hlt hb ht]
    exact ⟨by rw [tokS_at]; exact q3, Or.inr (Or.inl ⟨ht, q2⟩)⟩
  have ye : tyA a ≠ 0 → tyA a ≠ 1 → (zI M' 633 23).toInt = (p : Int) → (zI M' 633 4).toInt = ((p + k : Nat) : Int) → ((tyA a = 2 ∧ zI M' 633 22 = 1 ∧ p + k ≤ p + 6 ∧ fL M' 633 31 = pkF (slS (bR M) p (p + k - p))) ∨ (tyA a = 3 ∧ zI M' 633 22 = 2 ∧ zI M' 633 25 = a.2.2)) → RTk (bR M) n M' (tlS (bR M) n p) := fun q0 q1 q2 q3 q4 => by
    have ht : ¬ (tokS (bR M) n p).1 = 1 := by rw [hT]; exact q1
    rw [tlS_tok hlt hb ht, hT]
    refine ⟨q2, Or.inr (Or.inr ⟨⟨q0, q1⟩, ?_, by dsimp only; omega, q3, rfl⟩)⟩
    rcases q4 with q4 | q4
    · exact Or.inl q4
    · exact Or.inr (Or.inl q4)
  have g4 : ∀ x, (zI (wF M2 633 22 x) 633 4).toInt = ((p + k : Nat) : Int) := fun x => by rw [fI_wF_ne (fun q => absurd q.2 (by decide))]; exact p2
  rcases nx_295 S2 H with ⟨h1, h2, rfl⟩ | ⟨h1, h2, h3, h4, rfl⟩ | ⟨h1, h2, h3, h4, rfl⟩ | ⟨h1, h2, h3, h4, rfl⟩ | ⟨h1, h2, h3, h4, rfl⟩
  · refine ⟨h2, S2.kf, F3 _, no ?_ (g22 _) (g23 _)⟩
    rcases j5 with ⟨q, _⟩ | ⟨_, q⟩
    · rw [h1] at q
      exact absurd q (by decide)
    unfold tyA
    rcases smI_01 (bR M p) with hs | hs
    · rw [hs, if_pos rfl] at j7 q
      rw [if_neg (fun r => by rw [r.1] at j7; omega), if_neg (fun r => q r.1)]
    · rw [hs, if_neg (by decide : ¬ (1 : Int32) = 0)] at j7 q
      rw [if_neg (fun r => q r.1), if_neg (fun r => by rw [r.1] at j7; omega)]
  · rw [h2, if_pos rfl] at j5 j7
    have hL : a.1 = 0 := j5.elim (fun q => q.2) (fun q => absurd q.1 h1)
    rw [Int32.le_iff_toInt_le] at h3
    have hL2 : a.1.toInt = 0 := by rw [hL]; rfl
    have ht : tyA a = 3 := by
      unfold tyA
      rw [if_neg (fun r => by rw [r.1] at j7; omega), if_pos ⟨hL, fun r => by rw [Int32.lt_iff_toInt_lt] at r; omega⟩]
    refine ⟨h4, S2.kf, F3 _, ye (by rw [ht]; decide) (by rw [ht]; decide) (g23 _) (g4 _) (Or.inr ⟨ht, g22 _, ?_⟩)⟩
    rw [fI_wF_ne (fun q => absurd q.2 (by decide))]
    exact (j6 h2 hL).symm
  · rw [h2, if_pos rfl] at j5 j7
    have hL : a.1 = 0 := j5.elim (fun q => q.2) (fun q => absurd q.1 h1)
    rw [Int32.le_iff_toInt_le] at h3
    have hL2 : a.1.toInt = 0 := by rw [hL]; rfl
    refine ⟨h4, S2.kf, F3 _, no ?_ (g22 _) (g23 _)⟩
    unfold tyA
    rw [if_neg (fun r => by rw [r.1] at j7; omega), if_neg (fun r => r.2 (by rw [Int32.lt_iff_toInt_lt]; omega))]
  · rw [if_neg h2] at j5 j7
    have hD : a.2.1 = 0 := j5.elim (fun q => q.2) (fun q => absurd q.1 h1)
    rw [Int32.le_iff_toInt_le] at h3
    have hD2 : a.2.1.toInt = 0 := by rw [hD]; rfl
    have ht : tyA a = 2 := by
      unfold tyA
      rw [if_pos ⟨hD, fun r => by rw [Int32.lt_iff_toInt_lt] at r; omega⟩]
    refine ⟨h4, S2.kf, F3 _, ye (by rw [ht]; decide) (by rw [ht]; decide) (g23 _) (g4 _) (Or.inl ⟨ht, g22 _, by omega, ?_⟩)⟩
    rw [fL_wF, w2, List.take_of_length_le (by rw [slS_len]; omega), Nat.add_sub_cancel_left]
  · rw [if_neg h2] at j5 j7
    have hD : a.2.1 = 0 := j5.elim (fun q => q.2) (fun q => absurd q.1 h1)
    rw [Int32.le_iff_toInt_le] at h3
    have hD2 : a.2.1.toInt = 0 := by rw [hD]; rfl
    refine ⟨h4, S2.kf, F3 _, no ?_ (g22 _) (g23 _)⟩
    unfold tyA
    rw [if_neg (fun r => r.2 (by rw [Int32.lt_iff_toInt_lt]; omega)), if_neg (fun r => by rw [r.1] at j7; omega)]
end NXT
