/-! THE REFERENCE'S NEXT TOKEN, all of it -/
section NX2
variable {e : Nat} {M M' : Mem} {v : Option Value} {n : Nat}
theorem sgS_no {c : Int32} (h1 : ¬ c = 59) (h2 : ¬ c = 40) (h3 : ¬ c = 41) (h4 : c < 60 ∨ 62 < c) : sgS c = 1 := by
  unfold sgS
  rw [if_neg]
  rintro (q | q | q | q | q | q)
  · exact h1 q
  · exact h2 q
  · exact h3 q
  all_goals
    subst q
    exact h4.elim (by decide) (by decide)
theorem sgS_6 {c : Int32} (h4 : ¬ c < 60) (h5 : ¬ 62 < c) : c = 60 ∨ c = 61 ∨ c = 62 := by
  rw [Int32.lt_iff_toInt_lt] at h4 h5
  have o0 : (60 : Int32).toInt = 60 := rfl
  have o1 : (61 : Int32).toInt = 61 := rfl
  have o2 : (62 : Int32).toInt = 62 := rfl
  by_cases h : c.toInt = 60
  · exact Or.inl (Int32.toInt_inj.mp (by omega))
  · by_cases h6 : c.toInt = 61
    · exact Or.inr (Or.inl (Int32.toInt_inj.mp (by omega)))
    · exact Or.inr (Or.inr (Int32.toInt_inj.mp (by omega)))
theorem nx_tok {p : Nat} {c : Int32} (hn2 : n ≤ 440) (hS : SQ M) (hn : (zI M 633 3).toInt = (n : Int)) (hp : (zI M 633 4).toInt = (p : Int)) (hlt : ¬ mn4 n ≤ p) (hc : c = bR M p) (hb : ¬ (bR M p = 32 ∨ bR M p = 10)) (h23 : (zI M 633 23).toInt = (p : Int)) (h24 : zI M 633 24 = 0) (H : Ev none e 162 92 [some (.ref 633), some (.int c), none, none] [] M v M' 0 0) : v = none ∧ SQ M' ∧ FB fN [] M M' ∧ RTk (bR M) n M' (tlS (bR M) n p) := by
  have hmn := mn4_le (n := n)
  have e1 : G_160 M c = smI (bR M p) := by rw [hc]; rfl
  have e2 : G_161 M c = dgI (bR M p) := by rw [hc]; rfl
  have hT : smI (bR M p) = 0 → dgI (bR M p) = 0 → tokS (bR M) n p = (sgS c, p, p + 1, 0) := fun q1 q2 => by
    obtain ⟨f, hf⟩ : ∃ f, n - p = f + 1 := ⟨n - p - 1, by omega⟩
    unfold tokS
    rw [hf, if_pos (by unfold rlS; rw [if_pos ⟨q1, q2⟩]), hc]
  have FF : ∀ x y z, FB fN [] M (wF (wF (wF M 633 22 x) 633 25 y) 633 4 z) := fun x y z => ((FB.wF (by decide)).trans (FB.wF (by decide))).trans (FB.wF (by decide))
  have SS : ∀ x y z, SQ (wF (wF (wF M 633 22 x) 633 25 y) 633 4 z) := fun x y z => hS.kf.kf.kf
  have g22 : ∀ x y z, zI (wF (wF (wF M 633 22 x) 633 25 y) 633 4 z) 633 22 = x := fun x y z => by
    rw [fI_wF_ne (fun q => absurd q.2 (by decide)), fI_wF_ne (fun q => absurd q.2 (by decide)), fI_wF_eq hS.1 qa_633 qi_61_22]
  have g25 : ∀ x y z, zI (wF (wF (wF M 633 22 x) 633 25 y) 633 4 z) 633 25 = y := fun x y z => by
    rw [fI_wF_ne (fun q => absurd q.2 (by decide)), fI_wF_eq hS.kf.1 qa_633 qi_61_25]
  have g23 : ∀ x y z, (zI (wF (wF (wF M 633 22 x) 633 25 y) 633 4 z) 633 23).toInt = (p : Int) := fun x y z => by
    rw [fI_wF_ne (fun q => absurd q.2 (by decide)), fI_wF_ne (fun q => absurd q.2 (by decide)), fI_wF_ne (fun q => absurd q.2 (by decide))]
    exact h23
  have g4 : ∀ x y, (zI (wF (wF (wF M 633 22 x) 633 25 y) 633 4 (zI M 633 4 + 1)) 633 4).toInt = ((p + 1 : Nat) : Int) := fun x y => by
    rw [fI_wF_eq hS.kf.kf.1 qa_633 qi_61_4, i32_p1 (by omega)]
    omega
  have yes : smI (bR M p) = 0 → dgI (bR M p) = 0 → (c = 59 ∨ c = 40 ∨ c = 41 ∨ c = 60 ∨ c = 61 ∨ c = 62) → M' = wF (wF (wF M 633 22 3) 633 25 c) 633 4 (zI M 633 4 + 1) → SQ M' ∧ FB fN [] M M' ∧ RTk (bR M) n M' (tlS (bR M) n p) := fun q1 q2 q3 q4 => by
    subst q4
    have hs : sgS c = c := by
      unfold sgS
      rw [if_pos q3]
    have hT := hT q1 q2
    rw [hs] at hT
    have ht : ¬ (tokS (bR M) n p).1 = 1 := by
      rw [hT]
      show ¬ c = 1
      rintro rfl
      revert q3
      decide
    refine ⟨SS _ _ _, FF _ _ _, ?_⟩
    rw [tlS_tok hlt hb ht, hT]
    refine ⟨g23 _ _ _, Or.inr (Or.inr ⟨⟨?_, ?_⟩, Or.inr (Or.inr ⟨q3, g22 _ _ _, g25 _ _ _⟩), by dsimp only; omega, g4 _ _, rfl⟩)⟩
    · show c ≠ 0
      rintro rfl
      revert q3
      decide
    · show c ≠ 1
      rintro rfl
      revert q3
      decide
  have no : smI (bR M p) = 0 → dgI (bR M p) = 0 → sgS c = 1 → M' = wF (wF (wF M 633 22 4) 633 25 c) 633 4 (zI M 633 4 + 1) → SQ M' ∧ FB fN [] M M' ∧ RTk (bR M) n M' (tlS (bR M) n p) := fun q1 q2 q3 q4 => by
    subst q4
    have hT := hT q1 q2
    rw [q3] at hT
    have ht : (tokS (bR M) n p).1 = 1 := by rw [hT]
    refine ⟨SS _ _ _, FF _ _ _, ?_⟩
    rw [tlS_no hlt hb ht, hT]
    exact ⟨g23 _ _ _, Or.inr (Or.inl ⟨rfl, g22 _ _ _⟩)⟩
  rcases nx_92 hS H with ⟨h1, h2, h3, h4, h5⟩ | ⟨h1, h2, h3, h4, h5, h6⟩ | ⟨h1, h2, h3, h4, h5, h6, h7⟩ | ⟨h1, h2, h3, h4, h5, h6, h7, h8⟩ | ⟨h1, h2, h3, h4, h5, h6, h7, h8, h9⟩ | ⟨h1, h2, h3, h4, h5, h6, h7, h8, h9⟩ | ⟨h1, h2, H⟩ | ⟨h1, H⟩
  · rw [e1] at h1
    rw [e2] at h2
    exact ⟨h4, yes h1 h2 (Or.inl h3) h5⟩
  · rw [e1] at h1
    rw [e2] at h2
    exact ⟨h5, yes h1 h2 (Or.inr (Or.inl h4)) h6⟩
  · rw [e1] at h1
    rw [e2] at h2
    exact ⟨h6, yes h1 h2 (Or.inr (Or.inr (Or.inl h5))) h7⟩
  · rw [e1] at h1
    rw [e2] at h2
    exact ⟨h7, no h1 h2 (sgS_no h3 h4 h5 (Or.inl h6)) h8⟩
  · rw [e1] at h1
    rw [e2] at h2
    exact ⟨h8, no h1 h2 (sgS_no h3 h4 h5 (Or.inr h7)) h9⟩
  · rw [e1] at h1
    rw [e2] at h2
    exact ⟨h8, yes h1 h2 (Or.inr (Or.inr (Or.inr (sgS_6 h6 h7)))) h9⟩
  · rw [e1] at h1
    rw [e2] at h2
    exact nx_word hn2 hS hn hp hlt hc hb (fun q => h2 q.2) h23 h24 H
  · rw [e1] at h1
    exact nx_word hn2 hS hn hp hlt hc hb (fun q => h1 q.1) h23 h24 H
theorem bR_0 (k : Nat) : 0 ≤ (bR M k).toInt := (a255_b (rN M 634 k)).1
theorem nx_31x {p : Nat} (hn2 : n ≤ 440) (hS : SQ M) (hn : (zI M 633 3).toInt = (n : Int)) (hp : (zI M 633 4).toInt = (p : Int)) (hpn : p ≤ n) (hb : p < n → ¬ (bR M p = 32 ∨ bR M p = 10)) (H : Ev none e 162 31 [some (.ref 633), none, none, none] [] M v M' 0 0) : v = none ∧ SQ M' ∧ FB fN [] M M' ∧ RTk (bR M) n M' (tlS (bR M) n p) := by
  have o4 : (400 : Int32).toInt = 400 := rfl
  have S1 : SQ (wF (wF M 633 23 (zI M 633 4)) 633 24 0) := hS.kf.kf
  have F1 : FB fN [] M (wF (wF M 633 23 (zI M 633 4)) 633 24 0) := (FB.wF (by decide)).trans (FB.wF (by decide))
  have hb1 : bR (wF (wF M 633 23 (zI M 633 4)) 633 24 0) = bR M := F1.bR (by decide)
  have e24 : zI (wF (wF M 633 23 (zI M 633 4)) 633 24 0) 633 24 = 0 := fI_wF_eq hS.kf.1 qa_633 qi_61_24
  have e23 : zI (wF (wF M 633 23 (zI M 633 4)) 633 24 0) 633 23 = zI M 633 4 := by rw [fI_wF_ne (fun q => absurd q.2 (by decide)), fI_wF_eq hS.1 qa_633 qi_61_23]
  have hn1 : (zI (wF (wF M 633 23 (zI M 633 4)) 633 24 0) 633 3).toInt = (n : Int) := by rw [F1.fi (by decide)]; exact hn
  have hp1 : (zI (wF (wF M 633 23 (zI M 633 4)) 633 24 0) 633 4).toInt = (p : Int) := by rw [fI_wF_ne (fun q => absurd q.2 (by decide)), fI_wF_ne (fun q => absurd q.2 (by decide))]; exact hp
  have tok : ¬ mn4 n ≤ p → Ev none e 162 92 [some (.ref 633), some (.int (G_159 (wF (wF M 633 23 (zI M 633 4)) 633 24 0))), none, none] [] (wF (wF M 633 23 (zI M 633 4)) 633 24 0) v M' 0 0 → v = none ∧ SQ M' ∧ FB fN [] M M' ∧ RTk (bR M) n M' (tlS (bR M) n p) := fun q H => by
    have hmn := mn4_le (n := n)
    have hlt : p < n := by
      by_cases hx : n ≤ p
      · exact absurd (show mn4 n ≤ p by omega) q
      · omega
    obtain ⟨r1, r2, r3, r4⟩ := nx_tok hn2 S1 hn1 hp1 q (peq_lt hn1 hp1 hlt) (by rw [hb1]; exact hb hlt) (by rw [e23]; exact hp) e24 H
    rw [hb1] at r4
    exact ⟨r1, r2, F1.trans r3, r4⟩
  have neg : ¬ 0 ≤ G_159 (wF (wF M 633 23 (zI M 633 4)) 633 24 0) → n ≤ p := fun q => by
    by_cases hx : n ≤ p
    · exact hx
    · rw [peq_lt hn1 hp1 (by omega)] at q
      exact absurd (by rw [Int32.le_iff_toInt_le]; exact bR_0 p) q
  have pos : 0 ≤ G_159 (wF (wF M 633 23 (zI M 633 4)) 633 24 0) → p < n := fun q => by
    by_cases hx : n ≤ p
    · rw [peq_ge hn1 hp1 hx] at q
      exact absurd q (by decide)
    · omega
  have g22 : ∀ x, zI (wF (wF (wF M 633 23 (zI M 633 4)) 633 24 0) 633 22 x) 633 22 = x := fun x => fI_wF_eq S1.1 qa_633 qi_61_22
  rcases nx_31 hS H with ⟨h1, h2, H⟩ | ⟨h1, h2, h3, rfl⟩ | ⟨h1, h2, h3, H⟩ | ⟨h1, h2, h3, h4, rfl⟩ | ⟨h1, h2, h3, rfl⟩
  · rw [Int32.le_iff_toInt_le] at h1
    refine tok (fun q => ?_) H
    have := pos h2
    unfold mn4 at q
    rw [if_neg (by omega)] at q
    omega
  · rw [Int32.le_iff_toInt_le] at h1
    have h5 := neg h2
    have hm : mn4 n = n := by
      unfold mn4
      rw [if_neg (by omega)]
    rw [tlS_end hpn (by omega)]
    refine ⟨h3, S1.kf, F1.trans (FB.wF (by decide)), ?_, Or.inl ⟨rfl, ?_⟩⟩
    · rw [fI_wF_ne (fun q => absurd q.2 (by decide)), e23, hp, hm]
      show (p : Int) = (n : Int)
      omega
    · rw [g22, if_neg (by omega)]
  · rw [Int32.le_iff_toInt_le] at h1
    rw [Int32.lt_iff_toInt_lt] at h2
    refine tok (fun q => ?_) H
    unfold mn4 at q
    rw [if_pos (by omega)] at q
    omega
  · rw [Int32.le_iff_toInt_le] at h1
    rw [Int32.lt_iff_toInt_lt] at h2
    have := neg h3
    omega
  · rw [Int32.le_iff_toInt_le] at h1
    rw [Int32.lt_iff_toInt_lt] at h2
    have hm : mn4 n = 400 := by
      unfold mn4
      rw [if_pos (by omega)]
    rw [tlS_end hpn (by omega)]
    refine ⟨h3, S1.kf.kf, (F1.trans (FB.wF (by decide))).trans (FB.wF (by decide)), ?_, Or.inl ⟨rfl, ?_⟩⟩
    · rw [fI_wF_ne (fun q => absurd q.2 (by decide)), fI_wF_eq S1.1 qa_633 qi_61_23, hm]
      rfl
    · rw [fI_wF_eq S1.kf.1 qa_633 qi_61_22, if_pos (by omega)]
theorem nx_all (hn2 : n ≤ 440) : ∀ (m p : Nat) (M : Mem), n - p ≤ m → p ≤ n → SQ M → (zI M 633 3).toInt = (n : Int) → (zI M 633 4).toInt = (p : Int) → Ev none e 162 0 [some (.ref 633), none, none, none] [] M v M' 0 0 → v = none ∧ SQ M' ∧ FB fN [] M M' ∧ RTk (bR M) n M' (tlS (bR M) n p) := by
  intro m
  induction m with
  | zero =>
    intro p M hm hpn hS hn hp H
    have hpk := peq_ge hn hp (by omega)
    rcases nx_0 hS H with ⟨h1, _⟩ | ⟨_, h1, _⟩ | ⟨h1, h2, H⟩
    · rw [hpk] at h1
      exact absurd h1 (by decide)
    · rw [hpk] at h1
      exact absurd h1 (by decide)
    · exact nx_31x hn2 hS hn hp hpn (fun q => by omega) H
  | succ m ih =>
    intro p M hm hpn hS hn hp H
    have hmn := mn4_le (n := n)
    have go : (G_159 M = 32 ∨ G_159 M = 10) → Ev none e 162 0 [some (.ref 633), none, none, none] [] (wF M 633 4 (zI M 633 4 + 1)) v M' 0 0 → v = none ∧ SQ M' ∧ FB fN [] M M' ∧ RTk (bR M) n M' (tlS (bR M) n p) := fun q H => by
      have hlt : p < n := by
        by_cases hx : n ≤ p
        · rw [peq_ge hn hp hx] at q
          exact absurd q (by decide)
        · omega
      rw [peq_lt hn hp hlt] at q
      have F1 : FB fN [] M (wF M 633 4 (zI M 633 4 + 1)) := FB.wF (by decide)
      have hb1 : bR (wF M 633 4 (zI M 633 4 + 1)) = bR M := F1.bR (by decide)
      obtain ⟨r1, r2, r3, r4⟩ := ih (p + 1) _ (by omega) (by omega) hS.kf (by rw [F1.fi (by decide)]; exact hn) (by rw [fI_wF_eq hS.1 qa_633 qi_61_4, i32_p1 (by omega)]; omega) H
      rw [hb1] at r4
      refine ⟨r1, r2, F1.trans r3, ?_⟩
      by_cases hx : mn4 n ≤ p
      · rw [tlS_end hpn hx]
        rw [tlS_end (by omega) (by omega)] at r4
        exact r4
      · rw [tlS_bl hx q]
        exact r4
    rcases nx_0 hS H with ⟨h1, H⟩ | ⟨_, h1, H⟩ | ⟨h1, h2, H⟩
    · exact go (Or.inl h1) H
    · exact go (Or.inr h1) H
    · refine nx_31x hn2 hS hn hp hpn (fun q => ?_) H
      rw [peq_lt hn hp q] at h1 h2
      exact fun r => r.elim h1 h2
end NX2
