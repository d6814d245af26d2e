/-! THE REFERENCE'S NEXT TOKEN, all of it -/
section NX2
variable {e : Nat} {M M' : Mem} {v : Option Value} {n : Nat}
theorem sgS_no {c : Int32} (h1 : ¬ c = 59) (h2 : ¬ c = 40) (h3 : ¬ c = 41) (h4 : c < 60 ∨ 62 < c) : sgS c = 1 := by
  unfold sgS
  rw [if_neg]
  rintro (q | q | q | q | q | q)
  · exact h1 q
  · exact h2 q
  · exact h3 q
  all_goals
    subst q
    exact h4.elim (by decide) (by decide)
theorem sgS_6 {c : Int32} (h4 : ¬ c < 60) (h5 : ¬ 62 < c) : c = 60 ∨ c = 61 ∨ c = 62 := by
  rw [Int32.lt_iff_toInt_lt] at h4 h5
  have o0 : (60 : Int32).toInt = 60 := rfl
  have o1 : (61 : Int32).toInt = 61 := rfl
  have o2 : (62 : Int32).toInt = 62 := rfl
  by_cases h : c.toInt = 60
  · exact Or.inl (Int32.toInt_inj.mp (by omega))
  · by_cases h6 : c.toInt = 61
    · exact Or.inr (Or.inl (Int32.toInt_inj.mp (by omega)))
    · exact Or.inr (Or.inr (Int32.toInt_inj.mp (by omega)))
theorem nx_tok {p : Nat} {c : Int32} (hn2 : n ≤ 440) (hS : SQ M) (hn : (zI M 633 3).toInt = (n : Int)) (hp : (zI M 633 4).toInt = (p : Int)) (hlt : ¬ mn4 n ≤ p) (hc : c = bR M p) (hb : ¬ (bR M p = 32 ∨ bR M p = 10)) (h23 : (zI M 633 23).toInt = (p : Int)) (h24 : zI M 633 24 = 0) (H : Ev none e 162 92 [some (.ref 633), some (.int c), none, none] [] M v M' 0 0) : v = none ∧ SQ M' ∧ FB fN [] M M' ∧ RTk (bR M) n M' (tlS (bR M) n p) := by
  have hmn := mn4_le (n := n)
  have e1 : G_160 M c = smI (bR M p) := by rw [hc]; rfl
  have e2 : G_161 M c = dgI (bR M p) := by rw [hc]; rfl
  have hT : smI (bR M p) = 0 → dgI (bR M p) = 0 → tokS (bR M) n p = (sgS c, p, p + 1, 0) := fun q1 q2 => by
    obtain ⟨f, hf⟩ : ∃ f, n - p = f + 1 := ⟨n - p - 1, by omega⟩
    unfold tokS
    rw [hf, if_pos (by unfold rlS; rw [if_pos ⟨q1, q2⟩]), hc]
  have FF : ∀ x y z, FB fN [] M (wF (wF (wF M 633 22 x) 633 25 y) 633 4 z) := fun x y z => ((FB.wF (by decide)).trans (FB.wF (by decide))).trans (FB.wF (by decide))
  have SS : ∀ x y z, SQ (wF (wF (wF M 633 22 x) 633 25 y) 633 4 z) := fun x y z => hS.kf.kf.kf
  have g22 : ∀ x y z, zI (wF (wF (wF M 633 22 x) 633 25 y) 633 4 z) 633 22 = x := fun x y z => by
    rw [fI_wF_ne (fun q => absurd q.2 (by decide)), fI_wF_ne (fun q => absurd q.2 (by decide)), fI_wF_eq hS.1 qa_633 qi_61_22]
  have g25 : ∀ x y z, zI (wF (wF (wF M 633 22 x) 633 25 y) 633 4 z) 633 25 = y := fun x y z => by
    rw [fI_wF_ne (fun q => absurd q.2 (by decide)), fI_wF_eq hS.kf.1 qa_633 qi_61_25]
  have g23 : ∀ x y z, (zI (wF (wF (wF M 633 22 x) 633 25 y) 633 4 z) 633 23).toInt = (p : Int) := fun x y z => by
    rw [fI_wF_ne (fun q => absurd q.2 (by decide)), fI_wF_ne (fun q => absurd q.2 (by decide)), fI_wF_ne (fun q => absurd q.2 (by decide))]
    exact h23
  have g4 : ∀ x y, (zI (wF (wF (wF M 633 22 x) 633 25 y) 633 4 (zI M 633 4 + 1)) 633 4).toInt = ((p + 1 : Nat) : Int) := fun x y => by
    rw [fI_wF_eq hS.kf.kf.1 qa_633 qi_61_4, i32_p1 (by omega)]
    omega
  have yes : smI (bR M p) = 0 → dgI (bR M p) = 0 → (c = 59 ∨ c = 40 ∨ c = 41 ∨ c = 60 ∨ c = 61 ∨ c = 62) → M' = wF (wF (wF M 633 22 3) 633 25 c) 633 4 (zI M 633 4 + 1) → SQ M' ∧ FB fN [] M M' ∧ RTk (bR M) n M' (tlS (bR M) n p) := fun q1 q2 q3 q4 => by
    subst q4
    have hs : sgS c = c := by
      unfold sgS
      rw [if_pos q3]
    have hT := hT q1 q2
    rw [hs] at hT
    have ht : ¬ (tokS (bR M) n p).1 = 1 := by
      rw [hT]
      show ¬ c = 1
      rintro rfl
      revert q3
      decide
    refine ⟨SS _ _ _, FF _ _ _, ?_⟩
    rw [tlS_tok hlt hb ht, hT]
    refine ⟨g23 _ _ _, Or.inr (Or.inr ⟨⟨?_, ?_⟩, Or.inr (Or.inr ⟨q3, g22 _ _ _, g25 _ _ _⟩), by dsimp only; omega, g4 _ _, rfl⟩)⟩
    · show c ≠ 0
      rintro rfl
      revert q3
      decide
    · show c ≠ 1
      rintro rfl
      revert q3
      decide
  have no : smI (bR M p) = 0 → dgI (bR M p) = 0 → sgS c = 1 → M' = wF (wF (wF M 633 22 4) 633 25 c) 633 4 (zI M 633 4 + 1) → SQ M' ∧ FB fN [] M M' ∧ RTk (bR M) n M' (tlS (bR M) n p) := fun q1 q2 q3 q4 => by
    subst q4
    have hT := hT q1 q2
    rw [q3] at hT
    have ht : (tokS (bR M) n p).1 = 1 := by rw [hT]
    refine ⟨SS _ _ _, FF _ _ _, ?_⟩
    rw [tlS_no hlt hb ht, hT]
    exact ⟨g23 _ _ _, Or.inr (Or.inl ⟨rfl, g22 _ _ _⟩)⟩
  rcases nx_92 hS H with ⟨h1, h2, h3, h4, h5⟩ | ⟨h1, h2, h3, h4, h5, h6⟩ | ⟨h1, h2, h3, h4, h5, h6, h7⟩ | ⟨h1, h2, h3, h4, h5, h6, h7, h8⟩ | ⟨h1, h2, h3, h4, h5, h6, h7, h8, h9⟩ | ⟨h1, h2, h3, h4, h5, h6, h7, h8, h9⟩ | ⟨h1, h2, H⟩ | ⟨h1, H⟩
  · rw [e1] at h1
    rw [e2] at h2
    exact ⟨h4, yes h1 h2 (Or.inl h3) h5⟩
  · rw [e1] at h1
    rw [e2] at h2
    exact ⟨h5, yes h1 h2 (Or.inr (Or.inl h4)) h6⟩
  · rw [e1] at h1
    rw [e2] at h2
    exact ⟨h6, yes h1 h2 (Or.inr (Or.inr (Or.inl h5))) h7⟩
  · rw [e1] at h1
    rw [e2] at h2
    exact ⟨h7, no h1 h2 (sgS_no h3 h4 h5 (Or.inl h6)) h8⟩
  · rw [e1] at h1
    rw [e2] at h2
    exact ⟨h8, no h1 h2 (sgS_no h3 h4 h5 (Or.inr h7)) h9⟩
  · rw [e1] at h1
    rw [e2] at h2
    exact ⟨h8, yes h1 h2 (Or.inr (Or.inr (Or.inr (sgS_6 h6 h7)))) h9⟩
  · rw [e1] at h1
    rw [e2] at h2
    exact nx_word hn2 hS hn hp hlt hc hb (fun q => h2 q.2) h23 h24 H
  · rw [e1] at h1
    exact nx_word hn2 hS hn hp hlt hc hb (fun q => h1 q.1) h23 h24 H
theorem bR_0 (k : Nat) : 0 ≤ (bR M k).toInt := (a255_b (rN M 634 k)).1
theorem nx_31x {p : Nat} (hn2 : n ≤ 440) (hS : SQ M) (hn : (zI M 633 3).toInt = (n : Int)) (hp : (zI M 633 4).toInt = (p : Int)) (hpn : p ≤ n) (hb : p < n → ¬ (bR M p = 32 ∨ bR M p = 10)) (H : Ev none e 162 31 [some (.ref 633), none, none, none] [] M v M' 0 0) : v = none ∧ SQ M' ∧ FB fN [] M M' ∧ RTk (bR M) n M' (tlS (bR M) n p) := by
  have o4 : (400 : Int32).toInt = 400 := rfl
  have S1 : SQ (wF (wF M 633 23 (zI M 633 4)) 633 24 0) := hS.kf.kf
  have F1 : FB fN [] M (wF (wF M 633 23 (zI M 633 4)) 633 24 0) := (FB.wF (by decide)).trans (FB.wF (by decide))
  have hb1 : bR (wF (wF M 633 23 (zI M 633 4)) 633 24 0) = bR M := F1.bR (by decide)
  have e24 : zI (wF (wF M 633 23 (zI M 633 4)) 633 24 0) 633 24 = 0 := fI_wF_eq hS.kf.1 qa_633 qi_61_24
  have e23 : zI (wF (wF M 633 23 (zI M 633 4)) 633 24 0) 633 23 = zI M 633 4 := by rw [fI_wF_ne (fun q => absurd q.2 (by decide)), fI_wF_eq hS.1 qa_633 qi_61_23]
  have hn1 : (zI (wF (wF M 633 23 (zI M 633 4)) 633 24 0) 633 3).toInt = (n : Int) := by rw [F1.fi (by decide)]; exact hn
  have hp1 : (zI (wF (wF M 633 23 (zI M 633 4)) 633 24 0) 633 4).toInt = (p : Int) := by rw [fI_wF_ne (fun q => absurd q.2 (by decide)), fI_wF_ne (fun q => absurd q.2 (by decide))]; exact hp
  have tok : ¬ mn4 n ≤ p → Ev none e 162 92 [some (.ref 633), some (.int (G_159 (wF (wF M 633 23 (zI M 633 4)) 633 24 0))), none, none] [] (wF (wF M 633 23 (zI M 633 4)) 633 24 0) v M' 0 0 → v = none ∧ SQ M' ∧ FB fN [] M M' ∧ RTk (bR M) n M' (tlS (bR M) n p) := fun q H => by
    have hmn := mn4_le (n := n)
    have hlt : p < n := by
      by_cases hx : n ≤ p
      · exact absurd (show mn4 n ≤ p by omega) q
      · omega
    obtain ⟨r1, r2, r3, r4⟩ := nx_tok hn2 S1 hn1 hp1 q (peq_lt hn1 hp1 hlt) (by rw [hb1]; exact hb hlt) (by rw [e23]; exact hp) e24 H
    rw [hb1] at r4
    exact ⟨r1, r2, F1.trans r3, r4⟩
  have neg : ¬ 0 ≤ G_159 (wF (wF M 633 23 (zI M 633 4)) 633 24 0) → n ≤ p := fun q => by
    by_cases hx : n ≤ p
    · exact hx
    · rw [peq_lt hn1 hp1 (by omega)] at q
      exact absurd (by rw [Int32.le_iff_toInt_le]; exact bR_0 p) q
  have pos : 0 ≤ G_159 (wF (wF M 633 23 (zI M 633 4)) 633 24 0) → p < n := fun q => by
    by_cases hx : n ≤ p
    · rw [peq_ge hn1 hp1 hx] at q
      exact absurd q (by decide)
    · omega
  have g22 : ∀ x, zI (wF (wF (wF M 633 23 (zI M 633 4)) 633 24 0) 633 22 x) 633 22 = x := fun x => fI_wF_eq S1.1 qa_633 qi_61_22
  rcases nx_31 hS H with ⟨h1, h2, H⟩ | ⟨h1, h2, h3, rfl⟩ | ⟨h1, h2, h3, H⟩ | ⟨h1, h2, h3, h4, rfl⟩ | ⟨h1, h2, h3, rfl⟩
  · rw [Int32.le_iff_toInt_le] at h1
    refine tok (fun q => ?_) H
    have := pos h2
    unfold mn4 at q
    rw [if_neg (by omega)] at q
    omega
  · rw [Int32.le_iff_toInt_le] at h1
    have h5 := neg h2
    have hm : mn4 n = n := by
      unfold mn4
      rw [if_neg (by omega)]
    rw [tlS_end hpn (by omega)]
    refine ⟨h3, S1.kf, F1.trans (FB.wF (by decide)), ?_, Or.inl ⟨rfl, ?_⟩⟩
    · rw [fI_wF_ne (fun q => absurd q.2 (by decide)), e23, hp, hm]
      show (p : Int) = (n : Int)
      omega
    · rw [g22, if_neg (by omega)]
  · rw [Int32.le_iff_toInt_le] at h1
    rw [Int32.lt_iff_toInt_lt] at h2
    refine tok (fun q => ?_) H
    unfold mn4 at q
    rw [if_pos (by omega)] at q
    omega
  · rw [Int32.le_iff_toInt_le] at h1
    rw [Int32.lt_iff_toInt_lt] at h2
    have := neg h3
    omega
  · rw [Int32.le_iff_toInt_le] at h1
    rw [Int32.lt_iff_toInt_lt] at h2
    have hm : mn4 n = 400 := by
      unfold mn4
      rw [if_pos (by omega)]
    rw [tlS_end hpn (by omega)]
    refine ⟨h3, S1.kf.kf, (F1.trans (FB.wF (by decide))).trans (FB.wF (by decide)), ?_, Or.inl ⟨rfl, ?_⟩⟩
    · rw [fI_wF_ne (fun q => absurd q.2 (by decide)), fI_wF_eq S1.1 qa_633 qi_61_23, hm]
      rfl
    · rw [fI_wF_eq S1.kf.1 qa_633 qi_61_22, if_pos (by omega)]
theorem nx_all (hn2 : n ≤ 440) : ∀ (m p : Nat) (M : Mem), n - p ≤ m → p ≤ n → SQ M → (zI M 633 3).toInt = (n : Int) → (zI M 633 4).toInt = (p : Int) → Ev none e 162 0 [some (.ref 633), none, none, none] [] M v M' 0 0 → v = none ∧ SQ M' ∧ FB fN [] M M' ∧ RTk (bR M) n M' (tlS (bR M) n p) := by
  intro m
  induction m with
  | zero =>
    intro p M hm hpn hS hn hp H
    have hpk := peq_ge hn hp (by omega)
    rcases nx_0 hS H with ⟨h1, _⟩ | ⟨_, h1, _⟩ | ⟨h1, h2, H⟩
    · rw [hpk] at h1
      exact absurd h1 (by decide)
    · rw [hpk] at h1
      exact absurd h1 (by decide)
    · exact nx_31x hn2 hS hn hp hpn (fun q => by omega) H
  | succ m ih =>
    intro p M hm hpn hS hn hp H
    have hmn := mn4_le (n := n)
    have go : (G_159 M = 32 ∨ G_159 M = 10) → Ev none e 162 0 [some (.ref 633), none, none, none] [] (wF M 633 4 (zI M 633 4 + 1)) v M' 0 0 → v = none ∧ SQ M' ∧ FB fN [] M M' ∧ RTk (bR M) n M' (tlS (bR M) n p) := fun q H => by
      have hlt : p < n := by
        by_cases hx : n ≤ p
        · rw [peq_ge hn hp hx] at q
          exact absurd q (by decide)
        · omega
      rw [peq_lt hn hp hlt] at q
      have F1 : FB fN [] M (wF M 633 4 (zI M 633 4 + 1)) := FB.wF (by decide)
      have hb1 : bR (wF M 633 4 (zI M 633 4 + 1)) = bR M := F1.bR (by decide)
      obtain ⟨r1, r2, r3, r4⟩ := ih (p + 1) _ (by omega) (by omega) hS.kf (by rw [F1.fi (by decide)]; exact hn) (by rw [fI_wF_eq hS.1 qa_633 qi_61_4, i32_p1 (by omega)]; omega) H
      rw [hb1] at r4
      refine ⟨r1, r2, F1.trans r3, ?_⟩
      by_cases hx : mn4 n ≤ p
      · rw [tlS_end hpn hx]
        rw [tlS_end (by omega) (by omega)] at r4
        exact r4
      · rw [tlS_bl hx q]
        exact r4
    rcases nx_0 hS H with ⟨h1, H⟩ | ⟨_, h1, H⟩ | ⟨h1, h2, H⟩
    · exact go (Or.inl h1) H
    · exact go (Or.inr h1) H
    · refine nx_31x hn2 hS hn hp hpn (fun q => ?_) H
      rw [peq_lt hn hp q] at h1 h2
      exact fun r => r.elim h1 h2
end NX2
/-! THE PARSER, in itself -/
/-- what a step asks (as the reference numbers it: 0 to 11 the words, 20 not, 21 and, 22 or), its sign, its number -/
abbrev Cdq : Type := Int32 × Int32 × Int32
/-- the tokens left, how many ONES, the steps written -/
abbrev Sg : Type := List Tok × Nat × List Cdq
/-- so far; or a fault and its place -/
abbrev PR : Type := Sg ⊕ (Int32 × Nat)
noncomputable def hdT (ts : List Tok) : Tok := ts.headD (0, 0, 0, 0)
noncomputable def wdS (B : Nat → Int32) (t : Tok) : List Int32 := if t.1 = 2 then slS B t.2.1 (t.2.2.1 - t.2.1) else []
noncomputable def ixF (w : List Int32) : List (List Int32) → Int32 → Int32
  | [], _ => -1
  | u :: r, i => if w = u then i else ixF w r (i + 1)
def lawW : List (List Int32) := [[119, 101, 97, 114], [103, 114, 111, 119], [108, 105, 110, 101], [109, 117, 100], [100, 114, 121]]
def habW : List (List Int32) := [[119, 101, 105, 103, 104], [110, 101, 118, 101, 114], [115, 105, 103, 104, 116]]
def ifW : List Int32 := [105, 102]
def meaW : List (List Int32) := [[103, 114, 101, 101, 110], [119, 101, 116], [99, 108, 105, 109, 98], [99, 114, 111, 119, 100], [116, 117, 114, 110], [99, 111, 109, 101], [108, 105, 110, 101]]
def orW : List Int32 := [111, 114]
def andW : List Int32 := [97, 110, 100]
def oneW : List (List Int32) := [[103, 114, 97, 115, 115], [103, 114, 97, 118, 101, 108], [98, 101, 100], [112, 97, 118, 101, 100], [115, 116, 101, 112, 115], [115, 105, 103, 110], [109, 117, 100, 100, 121], [119, 111, 114, 110], [119, 101, 97, 114], [119, 101, 116], [104, 101, 105, 103, 104, 116], [116, 114, 111, 100], [110, 111, 116]]
section SPEC
variable (B : Nat → Int32)
noncomputable def cmpS (a : Int32) (s : Sg) : PR :=
  if (hdT s.1).1 ≠ 60 ∧ (hdT s.1).1 ≠ 61 ∧ (hdT s.1).1 ≠ 62 then .inr (1, (hdT s.1).2.1)
  else if (hdT s.1.tail).1 ≠ 3 then .inr (1, (hdT s.1.tail).2.1)
  else .inl (s.1.tail.tail, s.2.1, s.2.2 ++ [(a, (hdT s.1).1, (hdT s.1.tail).2.2.2)])
noncomputable def oneB (C O : Nat → Sg → PR) (dep : Nat) (s : Sg) : PR :=
  if ixF (wdS B (hdT s.1)) oneW 0 < 0 ∧ (hdT s.1).1 ≠ 40 then .inr (1, (hdT s.1).2.1)
  else if 40 ≤ s.2.1 ∨ 10 < dep then .inr (4, (hdT s.1).2.1)
  else if ixF (wdS B (hdT s.1)) oneW 0 < 0 then (match C (dep + 1) (s.1.tail, s.2.1 + 1, s.2.2) with
    | .inr f => .inr f
    | .inl s2 => if (hdT s2.1).1 ≠ 41 then .inr (1, (hdT s2.1).2.1) else .inl (s2.1.tail, s2.2.1, s2.2.2))
  else if ixF (wdS B (hdT s.1)) oneW 0 = 12 then (match O (dep + 1) (s.1.tail, s.2.1 + 1, s.2.2) with
    | .inr f => .inr f
    | .inl s2 => .inl (s2.1, s2.2.1, s2.2.2 ++ [(20, 0, 0)]))
  else if 8 ≤ ixF (wdS B (hdT s.1)) oneW 0 then cmpS (ixF (wdS B (hdT s.1)) oneW 0) (s.1.tail, s.2.1 + 1, s.2.2)
  else .inl (s.1.tail, s.2.1 + 1, s.2.2 ++ [(ixF (wdS B (hdT s.1)) oneW 0, 0, 0)])
/-- further ones of a word, j at most -/
noncomputable def mrB (w : List Int32) (c : Int32) (O : Nat → Sg → PR) (dep : Nat) : Nat → Sg → PR
  | 0, s => .inl s
  | j + 1, s => if wdS B (hdT s.1) = w then (match O dep (s.1.tail, s.2.1, s.2.2) with
    | .inr f => .inr f
    | .inl s2 => mrB w c O dep j (s2.1, s2.2.1, s2.2.2 ++ [(c, 0, 0)])) else .inl s
noncomputable def allB (O : Nat → Sg → PR) (dep : Nat) (s : Sg) : PR := match O dep s with
  | .inr f => .inr f
  | .inl s2 => mrB B andW 21 O dep 40 s2
noncomputable def conB (A : Nat → Sg → PR) (dep : Nat) (s : Sg) : PR := match A dep s with
  | .inr f => .inr f
  | .inl s2 => mrB B orW 22 A dep 40 s2
/-- cond, all, one: so many calls deep -/
noncomputable def prS : Nat → (Nat → Sg → PR) × (Nat → Sg → PR) × (Nat → Sg → PR)
  | 0 => (fun _ _ => .inr (0, 0), fun _ _ => .inr (0, 0), fun _ _ => .inr (0, 0))
  | d + 1 => (conB B (prS d).2.1, allB B (prS d).2.2, oneB B (prS d).1 (prS d).2.2)
end SPEC
/-- tokens as a text has them: what ends is the last, and only that -/
def wfT : List Tok → Prop
  | [] => False
  | t :: r => ((t.1 = 0 ∨ t.1 = 1) ∧ r = []) ∨ ((t.1 ≠ 0 ∧ t.1 ≠ 1) ∧ wfT r)
theorem tlS_wf {B : Nat → Int32} {n : Nat} : ∀ m p, n - p ≤ m → p ≤ n → wfT (tlS B n p) := by
  intro m
  induction m with
  | zero =>
    intro p h1 h2
    have hm := mn4_le (n := n)
    rw [tlS_end h2 (by omega)]
    exact Or.inl ⟨Or.inl rfl, rfl⟩
  | succ m ih =>
    intro p h1 h2
    have hm := mn4_le (n := n)
    by_cases h : mn4 n ≤ p
    · rw [tlS_end h2 h]
      exact Or.inl ⟨Or.inl rfl, rfl⟩
    · by_cases hb : B p = 32 ∨ B p = 10
      · rw [tlS_bl h hb]
        exact ih (p + 1) (by omega) (by omega)
      · by_cases h1 : (tokS B n p).1 = 1
        · rw [tlS_no h hb h1]
          exact Or.inl ⟨Or.inr h1, rfl⟩
        · rw [tlS_tok h hb h1]
          have h3 := tokS_lt (B := B) (n := n) (p := p)
          have h4 := tokS_le (B := B) (n := n) (p := p) (by omega)
          refine Or.inr ⟨⟨?_, h1⟩, ih _ (by omega) h4⟩
          unfold tokS
          split
          · unfold sgS
            split
            · rename_i q
              intro r
              have r : B p = 0 := r
              rw [r] at q
              revert q
              decide
            · exact (by decide : (1 : Int32) ≠ 0)
          · unfold tyA
            split
            · exact (by decide : (2 : Int32) ≠ 0)
            · split
              · exact (by decide : (3 : Int32) ≠ 0)
              · exact (by decide : (1 : Int32) ≠ 0)
theorem wfT.tl {ts : List Tok} (h : wfT ts) (h0 : (hdT ts).1 ≠ 0) (h1 : (hdT ts).1 ≠ 1) : wfT ts.tail := by
  cases ts with
  | nil => exact h.elim
  | cons t r =>
    rcases h with ⟨h, _⟩ | ⟨_, h⟩
    · exact (h.elim h0 h1).elim
    · exact h
/-! THE CLASS'S READER: pieces of the parser (made by gcl.py) -/
theorem amq_0 {e : Nat} {M M' : Mem} {v : Option Value} {aw : Nat} (hS : SQ M) (H : Ev none e 32 0 [some (.ref 3), some (.retAddr aw), none, none, none, none, none, none] [] M v M' 0 0) : ((zI M 3 7) = 2 ∧ Ev none e 32 44 [some (.ref 3), some (.retAddr aw), some (.int (rI M 5 (zI M 3 6))), some (.int ((rI M 6 (zI M 3 6)) - (rI M 5 (zI M 3 6)))), some (.int 0), some (.int 0), some (.int 1), some (.int 0)] [] M v M' 0 0) ∨ (¬ ((zI M 3 7) = 2) ∧ v = some (.int (-1)) ∧ M' = M) := by
  have H : Ev none e 32 1 [some (.ref 3), some (.retAddr aw), none, none, none, none, none, none] [.ref 3] M v M' 0 0 := Ev.back 1 (fun n => rfl) H
  have H : Ev none e 32 4 [some (.ref 3), some (.retAddr aw), none, none, none, none, none, none] [.int (zI M 3 7)] M v M' 0 0 := Ev.back 1 (gs_3 rfl rfl (gf_i hS.1 qa_3 qi_3_7 rfl)) H
  have H : Ev none e 32 (if (zI M 3 7) = 2 then 10 else 8) [some (.ref 3), some (.retAddr aw), none, none, none, none, none, none] [] M v M' 0 0 := Ev.back 2 (fun n => rfl) H
  by_cases h1 : (zI M 3 7) = 2
  · rw [if_pos h1] at H
    have H : Ev none e 32 11 [some (.ref 3), some (.retAddr aw), none, none, none, none, none, none] [.ref 3] M v M' 0 0 := Ev.back 1 (fun n => rfl) H
    have H : Ev none e 32 14 [some (.ref 3), some (.retAddr aw), none, none, none, none, none, none] [.ref 5] M v M' 0 0 := Ev.back 1 (gs_3 rfl rfl (gf_u hS.1 qa_3 qr_3_2 qu_5 rfl)) H
    have H : Ev none e 32 15 [some (.ref 3), some (.retAddr aw), none, none, none, none, none, none] [.ref 3, .ref 5] M v M' 0 0 := Ev.back 1 (fun n => rfl) H
    have H : Ev none e 32 18 [some (.ref 3), some (.retAddr aw), none, none, none, none, none, none] [.int (zI M 3 6), .ref 5] M v M' 0 0 := Ev.back 1 (gs_3 rfl rfl (gf_i hS.1 qa_3 qi_3_6 rfl)) H
    obtain ⟨b2, H⟩ := Ev.ial rfl rfl hS.1 qa_5 qw_5 H
    have H : Ev none e 32 19 [some (.ref 3), some (.retAddr aw), none, none, none, none, none, none] [.int (rI M 5 (zI M 3 6))] M v M' 0 0 := H
    have H : Ev none e 32 21 [some (.ref 3), some (.retAddr aw), some (.int (rI M 5 (zI M 3 6))), none, none, none, none, none] [.ref 3] M v M' 0 0 := Ev.back 2 (fun n => rfl) H
    have H : Ev none e 32 24 [some (.ref 3), some (.retAddr aw), some (.int (rI M 5 (zI M 3 6))), none, none, none, none, none] [.ref 6] M v M' 0 0 := Ev.back 1 (gs_3 rfl rfl (gf_u hS.1 qa_3 qr_3_3 qu_6 rfl)) H
    have H : Ev none e 32 25 [some (.ref 3), some (.retAddr aw), some (.int (rI M 5 (zI M 3 6))), none, none, none, none, none] [.ref 3, .ref 6] M v M' 0 0 := Ev.back 1 (fun n => rfl) H
    have H : Ev none e 32 28 [some (.ref 3), some (.retAddr aw), some (.int (rI M 5 (zI M 3 6))), none, none, none, none, none] [.int (zI M 3 6), .ref 6] M v M' 0 0 := Ev.back 1 (gs_3 rfl rfl (gf_i hS.1 qa_3 qi_3_6 rfl)) H
    obtain ⟨b3, H⟩ := Ev.ial rfl rfl hS.1 qa_6 qw_6 H
    have H : Ev none e 32 29 [some (.ref 3), some (.retAddr aw), some (.int (rI M 5 (zI M 3 6))), none, none, none, none, none] [.int (rI M 6 (zI M 3 6))] M v M' 0 0 := H
    have H : Ev none e 32 44 [some (.ref 3), some (.retAddr aw), some (.int (rI M 5 (zI M 3 6))), some (.int ((rI M 6 (zI M 3 6)) - (rI M 5 (zI M 3 6)))), some (.int 0), some (.int 0), some (.int 1), some (.int 0)] [] M v M' 0 0 := Ev.back 11 (fun n => rfl) H
    have HF := H
    exact Or.inl ⟨h1, HF⟩
  · rw [if_neg h1] at H
    have H : Ev none e 32 9 [some (.ref 3), some (.retAddr aw), none, none, none, none, none, none] [.int (-1)] M v M' 0 0 := Ev.back 1 (fun n => rfl) H
    obtain ⟨z1, z2⟩ := Ev.retz rfl rfl H
    exact Or.inr (⟨h1, z1, z2⟩)
theorem amq_44 {e : Nat} {M M' : Mem} {v : Option Value} {st ln ix aq sm i : Int32} {aw : Nat} (hS : SQ M) (H : Ev none e 32 44 [some (.ref 3), some (.retAddr aw), some (.int st), some (.int ln), some (.int ix), some (.int aq), some (.int sm), some (.int i)] [] M v M' 0 0) : ((Int32.ofNat (gTx (aw - 10)).length) < i ∧ v = some (.int (-1)) ∧ M' = M) ∨ (¬ ((Int32.ofNat (gTx (aw - 10)).length) < i) ∧ i = (Int32.ofNat (gTx (aw - 10)).length) ∧ sm = 0 ∧ Ev none e 32 44 [some (.ref 3), some (.retAddr aw), some (.int st), some (.int ln), some (.int (ix + 1)), some (.int (i + 1)), some (.int 1), some (.int (i + 1))] [] M v M' 0 0) ∨ (¬ ((Int32.ofNat (gTx (aw - 10)).length) < i) ∧ i = (Int32.ofNat (gTx (aw - 10)).length) ∧ ¬ (sm = 0) ∧ (i - aq) = ln ∧ v = some (.int ix) ∧ M' = M) ∨ (¬ ((Int32.ofNat (gTx (aw - 10)).length) < i) ∧ i = (Int32.ofNat (gTx (aw - 10)).length) ∧ ¬ (sm = 0) ∧ ¬ ((i - aq) = ln) ∧ Ev none e 32 44 [some (.ref 3), some (.retAddr aw), some (.int st), some (.int ln), some (.int (ix + 1)), some (.int (i + 1)), some (.int 1), some (.int (i + 1))] [] M v M' 0 0) ∨ (¬ ((Int32.ofNat (gTx (aw - 10)).length) < i) ∧ ¬ (i = (Int32.ofNat (gTx (aw - 10)).length)) ∧ (cI (aw - 10) i) = 32 ∧ sm = 0 ∧ Ev none e 32 44 [some (.ref 3), some (.retAddr aw), some (.int st), some (.int ln), some (.int (ix + 1)), some (.int (i + 1)), some (.int 1), some (.int (i + 1))] [] M v M' 0 0) ∨ (¬ ((Int32.ofNat (gTx (aw - 10)).length) < i) ∧ ¬ (i = (Int32.ofNat (gTx (aw - 10)).length)) ∧ (cI (aw - 10) i) = 32 ∧ ¬ (sm = 0) ∧ (i - aq) = ln ∧ v = some (.int ix) ∧ M' = M) ∨ (¬ ((Int32.ofNat (gTx (aw - 10)).length) < i) ∧ ¬ (i = (Int32.ofNat (gTx (aw - 10)).length)) ∧ (cI (aw - 10) i) = 32 ∧ ¬ (sm = 0) ∧ ¬ ((i - aq) = ln) ∧ Ev none e 32 44 [some (.ref 3), some (.retAddr aw), some (.int st), some (.int ln), some (.int (ix + 1)), some (.int (i + 1)), some (.int 1), some (.int (i + 1))] [] M v M' 0 0) ∨ (¬ ((Int32.ofNat (gTx (aw - 10)).length) < i) ∧ ¬ (i = (Int32.ofNat (gTx (aw - 10)).length)) ∧ ¬ ((cI (aw - 10) i) = 32) ∧ sm = 0 ∧ Ev none e 32 44 [some (.ref 3), some (.retAddr aw), some (.int st), some (.int ln), some (.int ix), some (.int aq), some (.int 0), some (.int (i + 1))] [] M v M' 0 0) ∨ (¬ ((Int32.ofNat (gTx (aw - 10)).length) < i) ∧ ¬ (i = (Int32.ofNat (gTx (aw - 10)).length)) ∧ ¬ ((cI (aw - 10) i) = 32) ∧ ¬ (sm = 0) ∧ ln ≤ (i - aq) ∧ Ev none e 32 44 [some (.ref 3), some (.retAddr aw), some (.int st), some (.int ln), some (.int ix), some (.int aq), some (.int 0), some (.int (i + 1))] [] M v M' 0 0) ∨ (¬ ((Int32.ofNat (gTx (aw - 10)).length) < i) ∧ ¬ (i = (Int32.ofNat (gTx (aw - 10)).length)) ∧ ¬ ((cI (aw - 10) i) = 32) ∧ ¬ (sm = 0) ∧ ¬ (ln ≤ (i - aq)) ∧ (cI (aw - 10) i) = (rI M 2 ((st + i) - aq)) ∧ Ev none e 32 44 [some (.ref 3), some (.retAddr aw), some (.int st), some (.int ln), some (.int ix), some (.int aq), some (.int 1), some (.int (i + 1))] [] M v M' 0 0) ∨ (¬ ((Int32.ofNat (gTx (aw - 10)).length) < i) ∧ ¬ (i = (Int32.ofNat (gTx (aw - 10)).length)) ∧ ¬ ((cI (aw - 10) i) = 32) ∧ ¬ (sm = 0) ∧ ¬ (ln ≤ (i - aq)) ∧ ¬ ((cI (aw - 10) i) = (rI M 2 ((st + i) - aq))) ∧ Ev none e 32 44 [some (.ref 3), some (.retAddr aw), some (.int st), some (.int ln), some (.int ix), some (.int aq), some (.int 0), some (.int (i + 1))] [] M v M' 0 0) := by
  have H : Ev none e 32 47 [some (.ref 3), some (.retAddr aw), some (.int st), some (.int ln), some (.int ix), some (.int aq), some (.int sm), some (.int i)] [.retAddr aw, .int i] M v M' 0 0 := Ev.back 2 (fun n => rfl) H
  have H : Ev none e 32 50 [some (.ref 3), some (.retAddr aw), some (.int st), some (.int ln), some (.int ix), some (.int aq), some (.int sm), some (.int i)] [.int (Int32.ofNat (gTx (aw - 10)).length), .int i] M v M' 0 0 := Ev.len rfl rfl (fun _ _ => rfl) H
  have H : Ev none e 32 (if (Int32.ofNat (gTx (aw - 10)).length) < i then 156 else 53) [some (.ref 3), some (.retAddr aw), some (.int st), some (.int ln), some (.int ix), some (.int aq), some (.int sm), some (.int i)] [] M v M' 0 0 := Ev.back 1 (fun n => rfl) H
  by_cases h1 : (Int32.ofNat (gTx (aw - 10)).length) < i
  · rw [if_pos h1] at H
    have H : Ev none e 32 157 [some (.ref 3), some (.retAddr aw), some (.int st), some (.int ln), some (.int ix), some (.int aq), some (.int sm), some (.int i)] [.int (-1)] M v M' 0 0 := Ev.back 1 (fun n => rfl) H
    obtain ⟨z1, z2⟩ := Ev.retz rfl rfl H
    exact Or.inl ⟨h1, z1, z2⟩
  · rw [if_neg h1] at H
    have H : Ev none e 32 56 [some (.ref 3), some (.retAddr aw), some (.int st), some (.int ln), some (.int ix), some (.int aq), some (.int sm), some (.int i)] [.retAddr aw, .int i] M v M' 0 0 := Ev.back 2 (fun n => rfl) H
    have H : Ev none e 32 59 [some (.ref 3), some (.retAddr aw), some (.int st), some (.int ln), some (.int ix), some (.int aq), some (.int sm), some (.int i)] [.int (Int32.ofNat (gTx (aw - 10)).length), .int i] M v M' 0 0 := Ev.len rfl rfl (fun _ _ => rfl) H
    have H : Ev none e 32 (if i = (Int32.ofNat (gTx (aw - 10)).length) then 73 else 62) [some (.ref 3), some (.retAddr aw), some (.int st), some (.int ln), some (.int ix), some (.int aq), some (.int sm), some (.int i)] [] M v M' 0 0 := Ev.back 1 (fun n => rfl) H
    by_cases h2 : i = (Int32.ofNat (gTx (aw - 10)).length)
    · rw [if_pos h2] at H
      have H : Ev none e 32 (if sm = 0 then 90 else 78) [some (.ref 3), some (.retAddr aw), some (.int st), some (.int ln), some (.int ix), some (.int aq), some (.int sm), some (.int i)] [] M v M' 0 0 := Ev.back 2 (fun n => rfl) H
      by_cases h3 : sm = 0
      · rw [if_pos h3] at H
        have H : Ev none e 32 44 [some (.ref 3), some (.retAddr aw), some (.int st), some (.int ln), some (.int (ix + 1)), some (.int (i + 1)), some (.int 1), some (.int (i + 1))] [] M v M' 0 0 := Ev.back 10 (fun n => rfl) H
        have HF := H
        exact Or.inr (Or.inl ⟨h1, h2, h3, HF⟩)
      · rw [if_neg h3] at H
        have H : Ev none e 32 (if (i - aq) = ln then 87 else 90) [some (.ref 3), some (.retAddr aw), some (.int st), some (.int ln), some (.int ix), some (.int aq), some (.int sm), some (.int i)] [] M v M' 0 0 := Ev.back 5 (fun n => rfl) H
        by_cases h4 : (i - aq) = ln
        · rw [if_pos h4] at H
          have H : Ev none e 32 89 [some (.ref 3), some (.retAddr aw), some (.int st), some (.int ln), some (.int ix), some (.int aq), some (.int sm), some (.int i)] [.int ix] M v M' 0 0 := Ev.back 1 (fun n => rfl) H
          obtain ⟨z1, z2⟩ := Ev.retz rfl rfl H
          exact Or.inr (Or.inr (Or.inl ⟨h1, h2, h3, h4, z1, z2⟩))
        · rw [if_neg h4] at H
          have H : Ev none e 32 44 [some (.ref 3), some (.retAddr aw), some (.int st), some (.int ln), some (.int (ix + 1)), some (.int (i + 1)), some (.int 1), some (.int (i + 1))] [] M v M' 0 0 := Ev.back 10 (fun n => rfl) H
          have HF := H
          exact Or.inr (Or.inr (Or.inr (Or.inl ⟨h1, h2, h3, h4, HF⟩)))
    · rw [if_neg h2] at H
      have H : Ev none e 32 65 [some (.ref 3), some (.retAddr aw), some (.int st), some (.int ln), some (.int ix), some (.int aq), some (.int sm), some (.int i)] [.int i, .retAddr aw] M v M' 0 0 := Ev.back 2 (fun n => rfl) H
      have H : Ev none e 32 68 [some (.ref 3), some (.retAddr aw), some (.int st), some (.int ln), some (.int ix), some (.int aq), some (.int sm), some (.int i)] [.int (cI (aw - 10) i)] M v M' 0 0 := Ev.cha rfl rfl (fun _ _ => rfl) H
      have H : Ev none e 32 (if (cI (aw - 10) i) = 32 then 73 else 105) [some (.ref 3), some (.retAddr aw), some (.int st), some (.int ln), some (.int ix), some (.int aq), some (.int sm), some (.int i)] [] M v M' 0 0 := Ev.back 2 (fun n => rfl) H
      by_cases h5 : (cI (aw - 10) i) = 32
      · rw [if_pos h5] at H
        have H : Ev none e 32 (if sm = 0 then 90 else 78) [some (.ref 3), some (.retAddr aw), some (.int st), some (.int ln), some (.int ix), some (.int aq), some (.int sm), some (.int i)] [] M v M' 0 0 := Ev.back 2 (fun n => rfl) H
        by_cases h6 : sm = 0
        · rw [if_pos h6] at H
          have H : Ev none e 32 44 [some (.ref 3), some (.retAddr aw), some (.int st), some (.int ln), some (.int (ix + 1)), some (.int (i + 1)), some (.int 1), some (.int (i + 1))] [] M v M' 0 0 := Ev.back 10 (fun n => rfl) H
          have HF := H
          exact Or.inr (Or.inr (Or.inr (Or.inr (Or.inl ⟨h1, h2, h5, h6, HF⟩))))
        · rw [if_neg h6] at H
          have H : Ev none e 32 (if (i - aq) = ln then 87 else 90) [some (.ref 3), some (.retAddr aw), some (.int st), some (.int ln), some (.int ix), some (.int aq), some (.int sm), some (.int i)] [] M v M' 0 0 := Ev.back 5 (fun n => rfl) H
          by_cases h7 : (i - aq) = ln
          · rw [if_pos h7] at H
            have H : Ev none e 32 89 [some (.ref 3), some (.retAddr aw), some (.int st), some (.int ln), some (.int ix), some (.int aq), some (.int sm), some (.int i)] [.int ix] M v M' 0 0 := Ev.back 1 (fun n => rfl) H
            obtain ⟨z1, z2⟩ := Ev.retz rfl rfl H
            exact Or.inr (Or.inr (Or.inr (Or.inr (Or.inr (Or.inl ⟨h1, h2, h5, h6, h7, z1, z2⟩)))))
          · rw [if_neg h7] at H
            have H : Ev none e 32 44 [some (.ref 3), some (.retAddr aw), some (.int st), some (.int ln), some (.int (ix + 1)), some (.int (i + 1)), some (.int 1), some (.int (i + 1))] [] M v M' 0 0 := Ev.back 10 (fun n => rfl) H
            have HF := H
            exact Or.inr (Or.inr (Or.inr (Or.inr (Or.inr (Or.inr (Or.inl ⟨h1, h2, h5, h6, h7, HF⟩))))))
      · rw [if_neg h5] at H
        have H : Ev none e 32 (if sm = 0 then 147 else 110) [some (.ref 3), some (.retAddr aw), some (.int st), some (.int ln), some (.int ix), some (.int aq), some (.int sm), some (.int i)] [] M v M' 0 0 := Ev.back 2 (fun n => rfl) H
        by_cases h8 : sm = 0
        · rw [if_pos h8] at H
          have H : Ev none e 32 44 [some (.ref 3), some (.retAddr aw), some (.int st), some (.int ln), some (.int ix), some (.int aq), some (.int 0), some (.int (i + 1))] [] M v M' 0 0 := Ev.back 4 (fun n => rfl) H
          have HF := H
          exact Or.inr (Or.inr (Or.inr (Or.inr (Or.inr (Or.inr (Or.inr (Or.inl ⟨h1, h2, h5, h8, HF⟩)))))))
        · rw [if_neg h8] at H
          have H : Ev none e 32 (if ln ≤ (i - aq) then 147 else 119) [some (.ref 3), some (.retAddr aw), some (.int st), some (.int ln), some (.int ix), some (.int aq), some (.int sm), some (.int i)] [] M v M' 0 0 := Ev.back 5 (fun n => rfl) H
          by_cases h9 : ln ≤ (i - aq)
          · rw [if_pos h9] at H
            have H : Ev none e 32 44 [some (.ref 3), some (.retAddr aw), some (.int st), some (.int ln), some (.int ix), some (.int aq), some (.int 0), some (.int (i + 1))] [] M v M' 0 0 := Ev.back 4 (fun n => rfl) H
            have HF := H
            exact Or.inr (Or.inr (Or.inr (Or.inr (Or.inr (Or.inr (Or.inr (Or.inr (Or.inl ⟨h1, h2, h5, h8, h9, HF⟩))))))))
          · rw [if_neg h9] at H
            have H : Ev none e 32 122 [some (.ref 3), some (.retAddr aw), some (.int st), some (.int ln), some (.int ix), some (.int aq), some (.int sm), some (.int i)] [.int i, .retAddr aw] M v M' 0 0 := Ev.back 2 (fun n => rfl) H
            have H : Ev none e 32 125 [some (.ref 3), some (.retAddr aw), some (.int st), some (.int ln), some (.int ix), some (.int aq), some (.int sm), some (.int i)] [.int (cI (aw - 10) i)] M v M' 0 0 := Ev.cha rfl rfl (fun _ _ => rfl) H
            have H : Ev none e 32 126 [some (.ref 3), some (.retAddr aw), some (.int st), some (.int ln), some (.int ix), some (.int aq), some (.int sm), some (.int i)] [.ref 3, .int (cI (aw - 10) i)] M v M' 0 0 := Ev.back 1 (fun n => rfl) H
            have H : Ev none e 32 129 [some (.ref 3), some (.retAddr aw), some (.int st), some (.int ln), some (.int ix), some (.int aq), some (.int sm), some (.int i)] [.ref 1, .int (cI (aw - 10) i)] M v M' 0 0 := Ev.back 1 (gs_3 rfl rfl (gf_u hS.1 qa_3 qr_3_0 qu_1 rfl)) H
            have H : Ev none e 32 132 [some (.ref 3), some (.retAddr aw), some (.int st), some (.int ln), some (.int ix), some (.int aq), some (.int sm), some (.int i)] [.ref 2, .int (cI (aw - 10) i)] M v M' 0 0 := Ev.back 1 (gs_3 rfl rfl (gf_u hS.1 qa_1 qr_1_0 qu_2 rfl)) H
            have H : Ev none e 32 139 [some (.ref 3), some (.retAddr aw), some (.int st), some (.int ln), some (.int ix), some (.int aq), some (.int sm), some (.int i)] [.int ((st + i) - aq), .ref 2, .int (cI (aw - 10) i)] M v M' 0 0 := Ev.back 5 (fun n => rfl) H
            obtain ⟨b10, H⟩ := Ev.ial rfl rfl hS.1 qa_2 qw_2 H
            have H : Ev none e 32 140 [some (.ref 3), some (.retAddr aw), some (.int st), some (.int ln), some (.int ix), some (.int aq), some (.int sm), some (.int i)] [.int (rI M 2 ((st + i) - aq)), .int (cI (aw - 10) i)] M v M' 0 0 := H
            have H : Ev none e 32 (if (cI (aw - 10) i) = (rI M 2 ((st + i) - aq)) then 143 else 147) [some (.ref 3), some (.retAddr aw), some (.int st), some (.int ln), some (.int ix), some (.int aq), some (.int sm), some (.int i)] [] M v M' 0 0 := Ev.back 1 (fun n => rfl) H
            by_cases h11 : (cI (aw - 10) i) = (rI M 2 ((st + i) - aq))
            · rw [if_pos h11] at H
              have H : Ev none e 32 44 [some (.ref 3), some (.retAddr aw), some (.int st), some (.int ln), some (.int ix), some (.int aq), some (.int 1), some (.int (i + 1))] [] M v M' 0 0 := Ev.back 5 (fun n => rfl) H
              have HF := H
              exact Or.inr (Or.inr (Or.inr (Or.inr (Or.inr (Or.inr (Or.inr (Or.inr (Or.inr (Or.inl ⟨h1, h2, h5, h8, h9, h11, HF⟩)))))))))
            · rw [if_neg h11] at H
              have H : Ev none e 32 44 [some (.ref 3), some (.retAddr aw), some (.int st), some (.int ln), some (.int ix), some (.int aq), some (.int 0), some (.int (i + 1))] [] M v M' 0 0 := Ev.back 4 (fun n => rfl) H
              have HF := H
              exact Or.inr (Or.inr (Or.inr (Or.inr (Or.inr (Or.inr (Or.inr (Or.inr (Or.inr (Or.inr (⟨h1, h2, h5, h8, h9, h11, HF⟩))))))))))
/-! AMONG, exactly -/
theorem lt31 {k : Nat} (h : k ≤ 2000) : k < 2 ^ 31 := Nat.lt_of_le_of_lt h (by decide)
noncomputable def amG (w : List Int32) : List Int32 → Nat → Int32 → Int32 → Int32
  | [], j, sm, ix => if sm ≠ 0 ∧ j = w.length then ix else -1
  | c :: r, j, sm, ix => if c = 32 then (if sm ≠ 0 ∧ j = w.length then ix else amG w r 0 1 (ix + 1)) else amG w r (j + 1) (if sm ≠ 0 ∧ w[j]? = some c then 1 else 0) ix
theorem amG_u {w : List Int32} : ∀ (u r : List Int32) (j : Nat) (sm ix : Int32), (∀ c ∈ u, c ≠ 32) → amG w (u ++ 32 :: r) j sm ix = if sm ≠ 0 ∧ w.drop j = u ∧ j ≤ w.length then ix else amG w r 0 1 (ix + 1) := by
  intro u
  induction u with
  | nil =>
    intro r j sm ix _
    show (if (32 : Int32) = 32 then (if sm ≠ 0 ∧ j = w.length then ix else amG w r 0 1 (ix + 1)) else _) = _
    rw [if_pos rfl]
    congr 1
    refine propext (and_congr Iff.rfl ⟨fun q => ⟨?_, by omega⟩, fun q => ?_⟩)
    · rw [q]
      exact List.drop_length
    · have := congrArg List.length q.1
      rw [List.length_drop] at this
      have q2 := q.2
      have : w.length - j = 0 := this
      omega
  | cons c u ih =>
    intro r j sm ix hu
    have hc : ¬ c = 32 := hu c List.mem_cons_self
    show (if c = 32 then _ else amG w (u ++ 32 :: r) (j + 1) (if sm ≠ 0 ∧ w[j]? = some c then 1 else 0) ix) = _
    rw [if_neg hc, ih r (j + 1) _ ix (fun x hx => hu x (List.mem_cons_of_mem _ hx))]
    congr 1
    refine propext ⟨fun q => ?_, fun q => ?_⟩
    · obtain ⟨q1, q2, q3⟩ := q
      by_cases h : sm ≠ 0 ∧ w[j]? = some c
      · refine ⟨h.1, ?_, by omega⟩
        rw [List.drop_eq_getElem_cons (by omega), q2]
        congr 1
        have h2 := h.2
        rw [List.getElem?_eq_getElem (by omega)] at h2
        exact Option.some.inj h2
      · rw [if_neg h] at q1
        exact absurd rfl q1
    · obtain ⟨q1, q2, q3⟩ := q
      have hl := congrArg List.length q2
      rw [List.length_drop, List.length_cons] at hl
      have hj : j < w.length := by omega
      rw [List.drop_eq_getElem_cons hj] at q2
      have h1 := (List.cons.inj q2).1
      have h2 := (List.cons.inj q2).2
      rw [if_pos ⟨q1, by rw [List.getElem?_eq_getElem hj, h1]⟩]
      exact ⟨by decide, h2, by omega⟩
theorem amG_e {w : List Int32} : ∀ (u : List Int32) (j : Nat) (sm ix : Int32), (∀ c ∈ u, c ≠ 32) → amG w u j sm ix = if sm ≠ 0 ∧ w.drop j = u ∧ j ≤ w.length then ix else -1 := by
  intro u
  induction u with
  | nil =>
    intro j sm ix _
    show (if sm ≠ 0 ∧ j = w.length then ix else -1) = _
    congr 1
    refine propext (and_congr Iff.rfl ⟨fun q => ⟨?_, by omega⟩, fun q => ?_⟩)
    · rw [q]
      exact List.drop_length
    · have := congrArg List.length q.1
      rw [List.length_drop] at this
      have q2 := q.2
      have : w.length - j = 0 := this
      omega
  | cons c u ih =>
    intro j sm ix hu
    have hc : ¬ c = 32 := hu c List.mem_cons_self
    show (if c = 32 then _ else amG w u (j + 1) (if sm ≠ 0 ∧ w[j]? = some c then 1 else 0) ix) = _
    rw [if_neg hc, ih (j + 1) _ ix (fun x hx => hu x (List.mem_cons_of_mem _ hx))]
    congr 1
    refine propext ⟨fun q => ?_, fun q => ?_⟩
    · obtain ⟨q1, q2, q3⟩ := q
      by_cases h : sm ≠ 0 ∧ w[j]? = some c
      · refine ⟨h.1, ?_, by omega⟩
        rw [List.drop_eq_getElem_cons (by omega), q2]
        congr 1
        have h2 := h.2
        rw [List.getElem?_eq_getElem (by omega)] at h2
        exact Option.some.inj h2
      · rw [if_neg h] at q1
        exact absurd rfl q1
    · obtain ⟨q1, q2, q3⟩ := q
      have hl := congrArg List.length q2
      rw [List.length_drop, List.length_cons] at hl
      have hj : j < w.length := by omega
      rw [List.drop_eq_getElem_cons hj] at q2
      have h1 := (List.cons.inj q2).1
      have h2 := (List.cons.inj q2).2
      rw [if_pos ⟨q1, by rw [List.getElem?_eq_getElem hj, h1]⟩]
      exact ⟨by decide, h2, by omega⟩
def jnW : List (List Int32) → List Int32
  | [] => []
  | u :: r => match r with
    | [] => u
    | _ :: _ => u ++ 32 :: jnW r
theorem amG_ws {w : List Int32} : ∀ (ws : List (List Int32)) (ix : Int32), ws ≠ [] → (∀ u ∈ ws, ∀ c ∈ u, c ≠ 32) → amG w (jnW ws) 0 1 ix = ixF w ws ix := by
  intro ws
  induction ws with
  | nil => intro ix h; exact absurd rfl h
  | cons u r ih =>
    intro ix _ hu
    have hd : ∀ y : List Int32, ((1 : Int32) ≠ 0 ∧ w.drop 0 = y ∧ 0 ≤ w.length) ↔ w = y := fun y => ⟨fun q => q.2.1, fun q => ⟨by decide, q, Nat.zero_le _⟩⟩
    cases r with
    | nil =>
      show amG w u 0 1 ix = if w = u then ix else -1
      rw [amG_e u 0 1 ix (hu u List.mem_cons_self)]
      congr 1
      exact propext (hd u)
    | cons u2 r =>
      show amG w (u ++ 32 :: jnW (u2 :: r)) 0 1 ix = if w = u then ix else ixF w (u2 :: r) (ix + 1)
      rw [amG_u u _ 0 1 ix (hu u List.mem_cons_self), ih (ix + 1) (List.cons_ne_nil _ _) (fun x hx => hu x (List.mem_cons_of_mem _ hx))]
      congr 1
      exact propext (hd u)
section AMG
variable {e : Nat} {M M' : Mem} {v : Option Value}
theorem cI_at {k i : Nat} {z : Int32} (hz : z.toInt = (i : Int)) (hi : i < (gTx k).length) : cI k z = (gTx k)[i] := by
  obtain ⟨y, y1, y2⟩ := at_c (l := gTx k) hz hi
  unfold cI
  rw [y1]
  rw [nth_eq, List.getElem?_eq_getElem hi] at y2
  exact (Option.some.inj y2).symm
theorem amq_loop {aw : Nat} {w : List Int32} {st ln : Int32} {s0 : Nat} (hS : SQ M) (hlen : (gTx (aw - 10)).length ≤ 1000) (hst : st.toInt = (s0 : Int)) (hs0 : s0 ≤ 440) (hln : ln.toInt = (w.length : Int)) (hwl : w.length ≤ 440) (hw : ∀ j, j < w.length → w[j]? = some (rN M 2 (s0 + j))) : ∀ (r : List Int32) (i q : Nat) (iz qz sm ix : Int32), (gTx (aw - 10)).drop i = r → i ≤ (gTx (aw - 10)).length → q ≤ i → iz.toInt = (i : Int) → qz.toInt = (q : Int) → Ev none e 32 44 [some (.ref 3), some (.retAddr aw), some (.int st), some (.int ln), some (.int ix), some (.int qz), some (.int sm), some (.int iz)] [] M v M' 0 0 → v = some (.int (amG w r (i - q) sm ix)) ∧ M' = M := by
  have hle : (Int32.ofNat (gTx (aw - 10)).length).toInt = ((gTx (aw - 10)).length : Int) := nI_toInt (lt31 (by omega))
  intro r
  induction r with
  | nil =>
    intro i q iz qz sm ix hr hi hq hiz hqz H
    have hil : i = (gTx (aw - 10)).length := by
      have := congrArg List.length hr
      rw [List.length_drop] at this
      have : (gTx (aw - 10)).length - i = 0 := this
      omega
    have e1 : iz = Int32.ofNat (gTx (aw - 10)).length := Int32.toInt_inj.mp (by omega)
    have n1 : ¬ Int32.ofNat (gTx (aw - 10)).length < iz := fun x => by rw [Int32.lt_iff_toInt_lt] at x; omega
    have hz1 : (iz + 1).toInt = iz.toInt + 1 := i32_p1 (by omega)
    have hsub : (iz - qz).toInt = ((i - q : Nat) : Int) := by rw [i32_sub (by omega) (by omega)]; omega
    have out : ∀ {ix2 qz2 sm2 : Int32}, Ev none e 32 44 [some (.ref 3), some (.retAddr aw), some (.int st), some (.int ln), some (.int ix2), some (.int qz2), some (.int sm2), some (.int (iz + 1))] [] M v M' 0 0 → v = some (.int (-1)) ∧ M' = M := fun {ix2 qz2 sm2} H => by
      rcases amq_44 hS H with ⟨_, h⟩ | ⟨h, _⟩ | ⟨h, _⟩ | ⟨h, _⟩ | ⟨h, _⟩ | ⟨h, _⟩ | ⟨h, _⟩ | ⟨h, _⟩ | ⟨h, _⟩ | ⟨h, _⟩ | ⟨h, _⟩
      · exact h
      all_goals exact absurd (by rw [Int32.lt_iff_toInt_lt]; omega) h
    show v = some (.int (if sm ≠ 0 ∧ i - q = w.length then ix else -1)) ∧ M' = M
    rcases amq_44 hS H with ⟨h, _⟩ | ⟨_, _, h3, H⟩ | ⟨_, _, h3, h4, h5, h6⟩ | ⟨_, _, h3, h4, H⟩ | ⟨_, h, _⟩ | ⟨_, h, _⟩ | ⟨_, h, _⟩ | ⟨_, h, _⟩ | ⟨_, h, _⟩ | ⟨_, h, _⟩ | ⟨_, h, _⟩
    · exact absurd h n1
    · rw [if_neg (fun x => x.1 h3)]
      exact out H
    · rw [if_pos ⟨h3, by rw [h4] at hsub; omega⟩]
      exact ⟨h5, h6⟩
    · rw [if_neg (fun x => h4 (Int32.toInt_inj.mp (by omega)))]
      exact out H
    all_goals exact absurd e1 h
  | cons c r ih =>
    intro i q iz qz sm ix hr hi hq hiz hqz H
    have hil : i < (gTx (aw - 10)).length := by
      have := congrArg List.length hr
      rw [List.length_drop, List.length_cons] at this
      omega
    rw [List.drop_eq_getElem_cons hil] at hr
    have hc : (gTx (aw - 10))[i] = c := (List.cons.inj hr).1
    have hr2 := (List.cons.inj hr).2
    have e1 : ¬ iz = Int32.ofNat (gTx (aw - 10)).length := fun x => by rw [x] at hiz; omega
    have n1 : ¬ Int32.ofNat (gTx (aw - 10)).length < iz := fun x => by rw [Int32.lt_iff_toInt_lt] at x; omega
    have hz1 : (iz + 1).toInt = ((i + 1 : Nat) : Int) := by rw [i32_p1 (by omega)]; omega
    have hsub : (iz - qz).toInt = ((i - q : Nat) : Int) := by rw [i32_sub (by omega) (by omega)]; omega
    have hcI : cI (aw - 10) iz = c := (cI_at hiz hil).trans hc
    have o1 : (32 : Int32).toInt = 32 := rfl
    have sp : c = 32 → ¬ (sm ≠ 0 ∧ i - q = w.length) → Ev none e 32 44 [some (.ref 3), some (.retAddr aw), some (.int st), some (.int ln), some (.int (ix + 1)), some (.int (iz + 1)), some (.int 1), some (.int (iz + 1))] [] M v M' 0 0 → v = some (.int (amG w (c :: r) (i - q) sm ix)) ∧ M' = M := fun x1 x2 H => by
      show v = some (.int (if c = 32 then (if sm ≠ 0 ∧ i - q = w.length then ix else amG w r 0 1 (ix + 1)) else _)) ∧ M' = M
      rw [if_pos x1, if_neg x2]
      have h := ih (i + 1) (i + 1) _ _ _ _ hr2 (by omega) (Nat.le_refl _) hz1 hz1 H
      rw [Nat.sub_self] at h
      exact h
    have ch : ∀ {s2 : Int32}, ¬ c = 32 → (if sm ≠ 0 ∧ w[i - q]? = some c then (1 : Int32) else 0) = s2 → Ev none e 32 44 [some (.ref 3), some (.retAddr aw), some (.int st), some (.int ln), some (.int ix), some (.int qz), some (.int s2), some (.int (iz + 1))] [] M v M' 0 0 → v = some (.int (amG w (c :: r) (i - q) sm ix)) ∧ M' = M := fun {s2} x1 x2 H => by
      show v = some (.int (if c = 32 then _ else amG w r (i - q + 1) (if sm ≠ 0 ∧ w[i - q]? = some c then 1 else 0) ix)) ∧ M' = M
      rw [if_neg x1, x2]
      have h := ih (i + 1) q _ _ _ _ hr2 (by omega) (by omega) hz1 hqz H
      rw [show i + 1 - q = i - q + 1 from by omega] at h
      exact h
    have wn : ln ≤ iz - qz → w[i - q]? ≠ some c := fun x => by
      rw [Int32.le_iff_toInt_le] at x
      rw [List.getElem?_eq_none (by omega)]
      exact fun y => by cases y
    have ws : ¬ ln ≤ iz - qz → w[i - q]? = some (rI M 2 ((st + iz) - qz)) := fun x => by
      rw [Int32.le_iff_toInt_le] at x
      have a1 : (st + iz).toInt = st.toInt + iz.toInt := i32_add (by omega) (by omega)
      have a2 : ((st + iz) - qz).toInt = ((s0 + (i - q) : Nat) : Int) := by rw [i32_sub (by omega) (by omega)]; omega
      rw [rI_n a2]
      exact hw _ (by omega)
    rcases amq_44 hS H with ⟨h, _⟩ | ⟨_, h, _⟩ | ⟨_, h, _⟩ | ⟨_, h, _⟩ | ⟨_, _, h3, h4, H⟩ | ⟨_, _, h3, h4, h5, h6, h7⟩ | ⟨_, _, h3, h4, h5, H⟩ | ⟨_, _, h3, h4, H⟩ | ⟨_, _, h3, h4, h5, H⟩ | ⟨_, _, h3, h4, h5, h6, H⟩ | ⟨_, _, h3, h4, h5, h6, H⟩
    · exact absurd h n1
    · exact absurd h e1
    · exact absurd h e1
    · exact absurd h e1
    · rw [hcI] at h3
      exact sp h3 (fun x => x.1 h4) H
    · rw [hcI] at h3
      show v = some (.int (if c = 32 then (if sm ≠ 0 ∧ i - q = w.length then ix else amG w r 0 1 (ix + 1)) else _)) ∧ M' = M
      rw [if_pos h3, if_pos ⟨h4, by rw [h5] at hsub; omega⟩]
      exact ⟨h6, h7⟩
    · rw [hcI] at h3
      exact sp h3 (fun x => h5 (Int32.toInt_inj.mp (by omega))) H
    · rw [hcI] at h3
      exact ch h3 (by rw [if_neg (fun x => x.1 h4)]) H
    · rw [hcI] at h3
      exact ch h3 (by rw [if_neg (fun x => wn h5 x.2)]) H
    · rw [hcI] at h3 h6
      exact ch h3 (by rw [if_pos ⟨h4, by rw [ws h5, ← h6]⟩]) H
    · rw [hcI] at h3 h6
      exact ch h3 (if_neg (fun x => h6 (Option.some.inj ((ws h5).symm.trans x.2)).symm)) H
end AMG
/-! THE CLASS'S READER between its methods: the tokens left -/
def bdT (n : Nat) (ts : List Tok) : Prop := ∀ t ∈ ts, t.2.1 ≤ t.2.2.1 ∧ t.2.2.1 ≤ n
/-- these tokens are left -/
def CTk (n : Nat) (M : Mem) (ts : List Tok) : Prop := ∃ (TL : List Tok) (k : Nat), ts = TL.drop k ∧ wfT ts ∧ bdT n ts ∧ (zI M 3 6).toInt = (k : Int) ∧ (zI M 3 5).toInt = (TL.length : Int) ∧ TL.length ≤ 401 ∧ TArr M TL 0 ∧ zI M 3 7 = (hdT ts).1
theorem wfT.ne {ts : List Tok} (h : wfT ts) : ∃ r, ts = hdT ts :: r := by
  cases ts with
  | nil => exact h.elim
  | cons t r => exact ⟨r, rfl⟩
section CST
variable {e n : Nat} {M M' : Mem} {v : Option Value} {ts : List Tok}
theorem CTk.frm {F : List (Nat × Nat)} {W : List Nat} (h : CTk n M ts) (hF : FA F W M M') (h1 : (3, 5) ∉ F) (h2 : (3, 6) ∉ F) (h3 : (3, 7) ∉ F) (h4 : 4 ∉ W) (h5 : 5 ∉ W) (h6 : 6 ∉ W) (h7 : 7 ∉ W) : CTk n M' ts := by
  obtain ⟨TL, k, a1, a2, a3, a4, a5, a6, a7, a8⟩ := h
  refine ⟨TL, k, a1, a2, a3, by rw [hF.fi h2]; exact a4, by rw [hF.fi h1]; exact a5, a6, fun j t hj => ?_, by rw [hF.fi h3]; exact a8⟩
  rw [hF.rn h4, hF.rn h5, hF.rn h6, hF.rn h7]
  exact a7 j t hj
/-- the token looked at, as the rows hold it -/
theorem CTk.at (h : CTk n M ts) : rI M 4 (zI M 3 6) = (hdT ts).1 ∧ (rI M 5 (zI M 3 6)).toInt = ((hdT ts).2.1 : Int) ∧ (rI M 6 (zI M 3 6)).toInt = ((hdT ts).2.2.1 : Int) ∧ ((hdT ts).1 = 3 → rI M 7 (zI M 3 6) = (hdT ts).2.2.2) ∧ zI M 3 7 = (hdT ts).1 ∧ (hdT ts).2.1 ≤ (hdT ts).2.2.1 ∧ (hdT ts).2.2.1 ≤ n := by
  obtain ⟨TL, k, a1, a2, a3, a4, a5, a6, a7, a8⟩ := h
  obtain ⟨r, hr⟩ := a2.ne
  have hk : TL[k]? = some (hdT ts) := by
    have h1 : (TL.drop k)[0]? = some (hdT ts) := by
      rw [← a1, hr]
      rfl
    rw [List.getElem?_drop] at h1
    exact h1
  obtain ⟨b1, b2, b3, b4⟩ := a7 k _ hk
  rw [Nat.zero_add] at b1 b2 b3 b4
  rw [rI_n a4, rI_n a4, rI_n a4, rI_n a4]
  obtain ⟨c1, c2⟩ := a3 (hdT ts) (by rw [hr]; exact List.mem_cons_self)
  exact ⟨b1, b2, b3, b4, a8, c1, c2⟩
theorem slS_get {B : Nat → Int32} {p k j : Nat} (h : j < k) : (slS B p k)[j]? = some (B (p + j)) := by
  unfold slS
  rw [List.getElem?_map, List.getElem?_range h]
  rfl
theorem ixF_nil : ∀ (ws : List (List Int32)) (i : Int32), (∀ u ∈ ws, u ≠ []) → ixF [] ws i = -1 := by
  intro ws
  induction ws with
  | nil => intro i _; rfl
  | cons u r ih =>
    intro i h
    show (if [] = u then i else ixF [] r (i + 1)) = -1
    rw [if_neg (fun q => h u List.mem_cons_self q.symm)]
    exact ih (i + 1) (fun x hx => h x (List.mem_cons_of_mem _ hx))
theorem amq_all {aw : Nat} {ws : List (List Int32)} (hS : SQ M) (hn2 : n ≤ 440) (hT : CTk n M ts) (hx : gTx (aw - 10) = jnW ws) (hl : (jnW ws).length ≤ 1000) (h0 : ws ≠ []) (h1 : ∀ u ∈ ws, u ≠ []) (h2 : ∀ u ∈ ws, ∀ c ∈ u, c ≠ 32) (H : Ev none e 32 0 [some (.ref 3), some (.retAddr aw), none, none, none, none, none, none] [] M v M' 0 0) : v = some (.int (ixF (wdS (bC M) (hdT ts)) ws 0)) ∧ M' = M := by
  obtain ⟨c1, c2, c3, c4, c5, c6, c7⟩ := hT.at
  rcases amq_0 hS H with ⟨g1, H⟩ | ⟨g1, g2, g3⟩
  · rw [c5] at g1
    have hw : wdS (bC M) (hdT ts) = slS (bC M) (hdT ts).2.1 ((hdT ts).2.2.1 - (hdT ts).2.1) := by
      unfold wdS
      rw [if_pos g1]
    rw [hw]
    have h := amq_loop (w := slS (bC M) (hdT ts).2.1 ((hdT ts).2.2.1 - (hdT ts).2.1)) (s0 := (hdT ts).2.1) hS (by rw [hx]; exact hl) c2 (by omega) (by rw [i32_sub (by omega) (by omega), slS_len]; omega) (by rw [slS_len]; omega) (fun j hj => by rw [slS_len] at hj; exact slS_get hj) (gTx (aw - 10)) 0 0 0 0 1 0 rfl (Nat.zero_le _) (Nat.le_refl _) rfl rfl H
    rw [hx, amG_ws ws 0 h0 h2] at h
    exact h
  · rw [c5] at g1
    have hw : wdS (bC M) (hdT ts) = [] := by
      unfold wdS
      rw [if_neg g1]
    rw [hw, ixF_nil ws 0 h1]
    exact ⟨g2, g3⟩
end CST
/-! THE CLASS'S READER: pieces of cond, all, one (made by gcl.py) -/
noncomputable def X_31 (M : Mem) : Mem := if ((zI M 3 5) - 1) ≤ (zI M 3 6) then M else (wF (wF M 3 6 ((zI M 3 6) + 1)) 3 7 (rI M 4 ((zI M 3 6) + 1)))
theorem g_31 {e : Nat} {M M' : Mem} {v : Option Value} (hS : SQ M) (H : Ev none e 31 0 [some (.ref 3)] [] M v M' 0 0) : v = none ∧ M' = X_31 M := by
  unfold X_31
  have H : Ev none e 31 1 [some (.ref 3)] [.ref 3] M v M' 0 0 := Ev.back 1 (fun n => rfl) H
  have H : Ev none e 31 4 [some (.ref 3)] [.int (zI M 3 6)] M v M' 0 0 := Ev.back 1 (gs_3 rfl rfl (gf_i hS.1 qa_3 qi_3_6 rfl)) H
  have H : Ev none e 31 5 [some (.ref 3)] [.ref 3, .int (zI M 3 6)] M v M' 0 0 := Ev.back 1 (fun n => rfl) H
  have H : Ev none e 31 8 [some (.ref 3)] [.int (zI M 3 5), .int (zI M 3 6)] M v M' 0 0 := Ev.back 1 (gs_3 rfl rfl (gf_i hS.1 qa_3 qi_3_5 rfl)) H
  have H : Ev none e 31 (if ((zI M 3 5) - 1) ≤ (zI M 3 6) then 36 else 13) [some (.ref 3)] [] M v M' 0 0 := Ev.back 3 (fun n => rfl) H
  by_cases h1 : ((zI M 3 5) - 1) ≤ (zI M 3 6)
  · rw [if_pos h1] at H
    obtain ⟨p1, p2⟩ := Ev.retb (fun n => rfl) H
    exact ⟨p1, by rw [if_pos h1]; exact p2⟩
  · rw [if_neg h1] at H
    have H : Ev none e 31 15 [some (.ref 3)] [.ref 3, .ref 3] M v M' 0 0 := Ev.back 2 (fun n => rfl) H
    have H : Ev none e 31 18 [some (.ref 3)] [.int (zI M 3 6), .ref 3] M v M' 0 0 := Ev.back 1 (gs_3 rfl rfl (gf_i hS.1 qa_3 qi_3_6 rfl)) H
    have H : Ev none e 31 20 [some (.ref 3)] [.int ((zI M 3 6) + 1), .ref 3] M v M' 0 0 := Ev.back 2 (fun n => rfl) H
    obtain ⟨N3, eN3⟩ : ∃ N, N = (wF M 3 6 ((zI M 3 6) + 1)) := ⟨_, rfl⟩
    have hN3 : SQ N3 := by rw [eN3]; exact hS.kf
    have H : Ev none e 31 23 [some (.ref 3)] [] N3 v M' 0 0 := by rw [eN3]; exact Ev.pfi rfl rfl rfl hS.1 qa_3 qi_3_6 H
    have H : Ev none e 31 25 [some (.ref 3)] [.ref 3, .ref 3] N3 v M' 0 0 := Ev.back 2 (fun n => rfl) H
    have H : Ev none e 31 28 [some (.ref 3)] [.ref 4, .ref 3] N3 v M' 0 0 := Ev.back 1 (gs_3 rfl rfl (gf_u hN3.1 qa_3 qr_3_1 qu_4 rfl)) H
    have H : Ev none e 31 29 [some (.ref 3)] [.ref 3, .ref 4, .ref 3] N3 v M' 0 0 := Ev.back 1 (fun n => rfl) H
    have H : Ev none e 31 32 [some (.ref 3)] [.int (zI N3 3 6), .ref 4, .ref 3] N3 v M' 0 0 := Ev.back 1 (gs_3 rfl rfl (gf_i hN3.1 qa_3 qi_3_6 rfl)) H
    rw [show zI N3 3 6 = (zI M 3 6) + 1 from by rw [eN3]; exact fI_wF_eq hS.1 qa_3 qi_3_6] at H
    obtain ⟨b4, H⟩ := Ev.ial rfl rfl hN3.1 qa_4 qw_4 H
    have H : Ev none e 31 33 [some (.ref 3)] [.int (rI N3 4 ((zI M 3 6) + 1)), .ref 3] N3 v M' 0 0 := H
    rw [show rI N3 4 ((zI M 3 6) + 1) = rI M 4 ((zI M 3 6) + 1) from by rw [eN3]; exact rN_wF] at H
    obtain ⟨N6, eN6⟩ : ∃ N, N = (wF N3 3 7 (rI M 4 ((zI M 3 6) + 1))) := ⟨_, rfl⟩
    have hN6 : SQ N6 := by rw [eN6]; exact hN3.kf
    have H : Ev none e 31 36 [some (.ref 3)] [] N6 v M' 0 0 := by rw [eN6]; exact Ev.pfi rfl rfl rfl hN3.1 qa_3 qi_3_7 H
    obtain ⟨p1, p2⟩ := Ev.retb (fun n => rfl) H
    subst eN3 eN6
    exact ⟨p1, by rw [if_neg h1]; exact p2⟩
theorem X_31_sx {M : Mem} (hS : SQ M) : SQ (X_31 M) := by
  unfold X_31
  split
  · exact hS
  · exact (hS.kf).kf
noncomputable def A_27 (M : Mem) (k : Int32) : Int32 := 0
noncomputable def X_27 (M : Mem) (k : Int32) : Mem := (wF (wF M 3 12 k) 3 13 (rI M 5 (zI M 3 6)))
theorem g_27 {e : Nat} {M M' : Mem} {v : Option Value} {k : Int32} (hS : SQ M) (H : Ev none e 27 0 [some (.ref 3), some (.int k)] [] M v M' 0 0) : v = some (.int (A_27 M k)) ∧ M' = X_27 M k := by
  unfold A_27 X_27
  have H : Ev none e 27 2 [some (.ref 3), some (.int k)] [.int k, .ref 3] M v M' 0 0 := Ev.back 2 (fun n => rfl) H
  obtain ⟨N2, eN2⟩ : ∃ N, N = (wF M 3 12 k) := ⟨_, rfl⟩
  have hN2 : SQ N2 := by rw [eN2]; exact hS.kf
  have H : Ev none e 27 5 [some (.ref 3), some (.int k)] [] N2 v M' 0 0 := by rw [eN2]; exact Ev.pfi rfl rfl rfl hS.1 qa_3 qi_3_12 H
  have H : Ev none e 27 7 [some (.ref 3), some (.int k)] [.ref 3, .ref 3] N2 v M' 0 0 := Ev.back 2 (fun n => rfl) H
  have H : Ev none e 27 10 [some (.ref 3), some (.int k)] [.ref 5, .ref 3] N2 v M' 0 0 := Ev.back 1 (gs_3 rfl rfl (gf_u hN2.1 qa_3 qr_3_2 qu_5 rfl)) H
  have H : Ev none e 27 11 [some (.ref 3), some (.int k)] [.ref 3, .ref 5, .ref 3] N2 v M' 0 0 := Ev.back 1 (fun n => rfl) H
  have H : Ev none e 27 14 [some (.ref 3), some (.int k)] [.int (zI N2 3 6), .ref 5, .ref 3] N2 v M' 0 0 := Ev.back 1 (gs_3 rfl rfl (gf_i hN2.1 qa_3 qi_3_6 rfl)) H
  rw [show zI N2 3 6 = zI M 3 6 from by rw [eN2]; exact fI_wF_ne (fun q => absurd q.2 (by decide))] at H
  obtain ⟨b3, H⟩ := Ev.ial rfl rfl hN2.1 qa_5 qw_5 H
  have H : Ev none e 27 15 [some (.ref 3), some (.int k)] [.int (rI N2 5 (zI M 3 6)), .ref 3] N2 v M' 0 0 := H
  rw [show rI N2 5 (zI M 3 6) = rI M 5 (zI M 3 6) from by rw [eN2]; exact rN_wF] at H
  obtain ⟨N5, eN5⟩ : ∃ N, N = (wF N2 3 13 (rI M 5 (zI M 3 6))) := ⟨_, rfl⟩
  have hN5 : SQ N5 := by rw [eN5]; exact hN2.kf
  have H : Ev none e 27 18 [some (.ref 3), some (.int k)] [] N5 v M' 0 0 := by rw [eN5]; exact Ev.pfi rfl rfl rfl hN2.1 qa_3 qi_3_13 H
  have H : Ev none e 27 19 [some (.ref 3), some (.int k)] [.int 0] N5 v M' 0 0 := Ev.back 1 (fun n => rfl) H
  obtain ⟨p1, p2⟩ := Ev.retz rfl rfl H
  subst eN2 eN5
  exact ⟨p1, p2⟩
theorem X_27_sx {M : Mem} {k : Int32} (hS : SQ M) : SQ (X_27 M k) := by
  unfold X_27
  exact (hS.kf).kf
noncomputable def X_40 (M : Mem) (x : Int32) (y : Int32) (z : Int32) : Mem := if 96 ≤ (zI M (fR M 3 8) 9) then M else (wF (wI (wI (wI M (fR M 3 8 + 6) ((zI M (fR M 3 8) 9).toNatClampNeg) x) (fR M 3 8 + 7) ((zI M (fR M 3 8) 9).toNatClampNeg) y) (fR M 3 8 + 8) ((zI M (fR M 3 8) 9).toNatClampNeg) z) (fR M 3 8) 9 ((zI M (fR M 3 8) 9) + 1))
theorem g_40 {e : Nat} {M M' : Mem} {v : Option Value} {x y z : Int32} (hS : SQ M) (a_t : gNth sT (fR M 3 8) = some 28) (H : Ev none e 40 0 [some (.ref 3), some (.int x), some (.int y), some (.int z)] [] M v M' 0 0) : v = none ∧ M' = X_40 M x y z := by
  unfold X_40
  have H : Ev none e 40 1 [some (.ref 3), some (.int x), some (.int y), some (.int z)] [.ref 3] M v M' 0 0 := Ev.back 1 (fun n => rfl) H
  have H : Ev none e 40 4 [some (.ref 3), some (.int x), some (.int y), some (.int z)] [.ref (fR M 3 8)] M v M' 0 0 := Ev.back 1 (gs_3 rfl rfl (gf_n hS.1 qa_3 qn_3_8 (by decide) a_t rfl)) H
  have H : Ev none e 40 7 [some (.ref 3), some (.int x), some (.int y), some (.int z)] [.int (zI M (fR M 3 8) 9)] M v M' 0 0 := Ev.back 1 (gs_3 rfl rfl (gf_i hS.1 a_t qi_28_9 rfl)) H
  have H : Ev none e 40 (if 96 ≤ (zI M (fR M 3 8) 9) then 73 else 12) [some (.ref 3), some (.int x), some (.int y), some (.int z)] [] M v M' 0 0 := Ev.back 2 (fun n => rfl) H
  by_cases h1 : 96 ≤ (zI M (fR M 3 8) 9)
  · rw [if_pos h1] at H
    obtain ⟨p1, p2⟩ := Ev.retb (fun n => rfl) H
    exact ⟨p1, by rw [if_pos h1]; exact p2⟩
  · rw [if_neg h1] at H
    have H : Ev none e 40 13 [some (.ref 3), some (.int x), some (.int y), some (.int z)] [.ref 3] M v M' 0 0 := Ev.back 1 (fun n => rfl) H
    have H : Ev none e 40 16 [some (.ref 3), some (.int x), some (.int y), some (.int z)] [.ref (fR M 3 8)] M v M' 0 0 := Ev.back 1 (gs_3 rfl rfl (gf_n hS.1 qa_3 qn_3_8 (by decide) a_t rfl)) H
    have H : Ev none e 40 19 [some (.ref 3), some (.int x), some (.int y), some (.int z)] [.ref (fR M 3 8 + 6)] M v M' 0 0 := Ev.back 1 (gs_3 rfl rfl (gf_x hS.1 a_t qo_28 (fx_t5 hS a_t) rfl)) H
    have H : Ev none e 40 20 [some (.ref 3), some (.int x), some (.int y), some (.int z)] [.ref 3, .ref (fR M 3 8 + 6)] M v M' 0 0 := Ev.back 1 (fun n => rfl) H
    have H : Ev none e 40 23 [some (.ref 3), some (.int x), some (.int y), some (.int z)] [.ref (fR M 3 8), .ref (fR M 3 8 + 6)] M v M' 0 0 := Ev.back 1 (gs_3 rfl rfl (gf_n hS.1 qa_3 qn_3_8 (by decide) a_t rfl)) H
    have H : Ev none e 40 26 [some (.ref 3), some (.int x), some (.int y), some (.int z)] [.int (zI M (fR M 3 8) 9), .ref (fR M 3 8 + 6)] M v M' 0 0 := Ev.back 1 (gs_3 rfl rfl (gf_i hS.1 a_t qi_28_9 rfl)) H
    have H : Ev none e 40 27 [some (.ref 3), some (.int x), some (.int y), some (.int z)] [.int x, .int (zI M (fR M 3 8) 9), .ref (fR M 3 8 + 6)] M v M' 0 0 := Ev.back 1 (fun n => rfl) H
    obtain ⟨b2, H⟩ := Ev.ias rfl rfl hS.1 (fx_g5 a_t) qw_34 H
    obtain ⟨N3, eN3⟩ : ∃ N, N = (wI M (fR M 3 8 + 6) ((zI M (fR M 3 8) 9).toNatClampNeg) x) := ⟨_, rfl⟩
    have hN3 : SQ N3 := by rw [eN3]; exact hS.ki
    have H : Ev none e 40 28 [some (.ref 3), some (.int x), some (.int y), some (.int z)] [] N3 v M' 0 0 := by rw [eN3]; exact H
    have H : Ev none e 40 29 [some (.ref 3), some (.int x), some (.int y), some (.int z)] [.ref 3] N3 v M' 0 0 := Ev.back 1 (fun n => rfl) H
    have H : Ev none e 40 32 [some (.ref 3), some (.int x), some (.int y), some (.int z)] [.ref (fR N3 3 8)] N3 v M' 0 0 := Ev.back 1 (gs_3 rfl rfl (gf_n hN3.1 qa_3 qn_3_8 (by decide) (by rw [show fR N3 3 8 = fR M 3 8 from by rw [eN3]; exact fR_wI]; exact a_t) rfl)) H
    rw [show fR N3 3 8 = fR M 3 8 from by rw [eN3]; exact fR_wI] at H
    have H : Ev none e 40 35 [some (.ref 3), some (.int x), some (.int y), some (.int z)] [.ref (fR M 3 8 + 7)] N3 v M' 0 0 := Ev.back 1 (gs_3 rfl rfl (gf_x hN3.1 a_t qo_28 (fx_t6 hN3 a_t) rfl)) H
    have H : Ev none e 40 36 [some (.ref 3), some (.int x), some (.int y), some (.int z)] [.ref 3, .ref (fR M 3 8 + 7)] N3 v M' 0 0 := Ev.back 1 (fun n => rfl) H
    have H : Ev none e 40 39 [some (.ref 3), some (.int x), some (.int y), some (.int z)] [.ref (fR N3 3 8), .ref (fR M 3 8 + 7)] N3 v M' 0 0 := Ev.back 1 (gs_3 rfl rfl (gf_n hN3.1 qa_3 qn_3_8 (by decide) (by rw [show fR N3 3 8 = fR M 3 8 from by rw [eN3]; exact fR_wI]; exact a_t) rfl)) H
    rw [show fR N3 3 8 = fR M 3 8 from by rw [eN3]; exact fR_wI] at H
    have H : Ev none e 40 42 [some (.ref 3), some (.int x), some (.int y), some (.int z)] [.int (zI N3 (fR M 3 8) 9), .ref (fR M 3 8 + 7)] N3 v M' 0 0 := Ev.back 1 (gs_3 rfl rfl (gf_i hN3.1 a_t qi_28_9 rfl)) H
    rw [show zI N3 (fR M 3 8) 9 = zI M (fR M 3 8) 9 from by rw [eN3]; exact fI_wI] at H
    have H : Ev none e 40 43 [some (.ref 3), some (.int x), some (.int y), some (.int z)] [.int y, .int (zI M (fR M 3 8) 9), .ref (fR M 3 8 + 7)] N3 v M' 0 0 := Ev.back 1 (fun n => rfl) H
    obtain ⟨b4, H⟩ := Ev.ias rfl rfl hN3.1 (fx_g6 a_t) qw_35 H
    obtain ⟨N5, eN5⟩ : ∃ N, N = (wI N3 (fR M 3 8 + 7) ((zI M (fR M 3 8) 9).toNatClampNeg) y) := ⟨_, rfl⟩
    have hN5 : SQ N5 := by rw [eN5]; exact hN3.ki
    have H : Ev none e 40 44 [some (.ref 3), some (.int x), some (.int y), some (.int z)] [] N5 v M' 0 0 := by rw [eN5]; exact H
    have H : Ev none e 40 45 [some (.ref 3), some (.int x), some (.int y), some (.int z)] [.ref 3] N5 v M' 0 0 := Ev.back 1 (fun n => rfl) H
    have H : Ev none e 40 48 [some (.ref 3), some (.int x), some (.int y), some (.int z)] [.ref (fR N5 3 8)] N5 v M' 0 0 := Ev.back 1 (gs_3 rfl rfl (gf_n hN5.1 qa_3 qn_3_8 (by decide) (by rw [(show fR N5 3 8 = fR N3 3 8 from by rw [eN5]; exact fR_wI).trans (show fR N3 3 8 = fR M 3 8 from by rw [eN3]; exact fR_wI)]; exact a_t) rfl)) H
    rw [(show fR N5 3 8 = fR N3 3 8 from by rw [eN5]; exact fR_wI).trans (show fR N3 3 8 = fR M 3 8 from by rw [eN3]; exact fR_wI)] at H
    have H : Ev none e 40 51 [some (.ref 3), some (.int x), some (.int y), some (.int z)] [.ref (fR M 3 8 + 8)] N5 v M' 0 0 := Ev.back 1 (gs_3 rfl rfl (gf_x hN5.1 a_t qo_28 (fx_t7 hN5 a_t) rfl)) H
    have H : Ev none e 40 52 [some (.ref 3), some (.int x), some (.int y), some (.int z)] [.ref 3, .ref (fR M 3 8 + 8)] N5 v M' 0 0 := Ev.back 1 (fun n => rfl) H
    have H : Ev none e 40 55 [some (.ref 3), some (.int x), some (.int y), some (.int z)] [.ref (fR N5 3 8), .ref (fR M 3 8 + 8)] N5 v M' 0 0 := Ev.back 1 (gs_3 rfl rfl (gf_n hN5.1 qa_3 qn_3_8 (by decide) (by rw [(show fR N5 3 8 = fR N3 3 8 from by rw [eN5]; exact fR_wI).trans (show fR N3 3 8 = fR M 3 8 from by rw [eN3]; exact fR_wI)]; exact a_t) rfl)) H
    rw [(show fR N5 3 8 = fR N3 3 8 from by rw [eN5]; exact fR_wI).trans (show fR N3 3 8 = fR M 3 8 from by rw [eN3]; exact fR_wI)] at H
    have H : Ev none e 40 58 [some (.ref 3), some (.int x), some (.int y), some (.int z)] [.int (zI N5 (fR M 3 8) 9), .ref (fR M 3 8 + 8)] N5 v M' 0 0 := Ev.back 1 (gs_3 rfl rfl (gf_i hN5.1 a_t qi_28_9 rfl)) H
    rw [(show zI N5 (fR M 3 8) 9 = zI N3 (fR M 3 8) 9 from by rw [eN5]; exact fI_wI).trans (show zI N3 (fR M 3 8) 9 = zI M (fR M 3 8) 9 from by rw [eN3]; exact fI_wI)] at H
    have H : Ev none e 40 59 [some (.ref 3), some (.int x), some (.int y), some (.int z)] [.int z, .int (zI M (fR M 3 8) 9), .ref (fR M 3 8 + 8)] N5 v M' 0 0 := Ev.back 1 (fun n => rfl) H
    obtain ⟨b6, H⟩ := Ev.ias rfl rfl hN5.1 (fx_g7 a_t) qw_36 H
    obtain ⟨N7, eN7⟩ : ∃ N, N = (wI N5 (fR M 3 8 + 8) ((zI M (fR M 3 8) 9).toNatClampNeg) z) := ⟨_, rfl⟩
    have hN7 : SQ N7 := by rw [eN7]; exact hN5.ki
    have H : Ev none e 40 60 [some (.ref 3), some (.int x), some (.int y), some (.int z)] [] N7 v M' 0 0 := by rw [eN7]; exact H
    have H : Ev none e 40 61 [some (.ref 3), some (.int x), some (.int y), some (.int z)] [.ref 3] N7 v M' 0 0 := Ev.back 1 (fun n => rfl) H
    have H : Ev none e 40 64 [some (.ref 3), some (.int x), some (.int y), some (.int z)] [.ref (fR N7 3 8)] N7 v M' 0 0 := Ev.back 1 (gs_3 rfl rfl (gf_n hN7.1 qa_3 qn_3_8 (by decide) (by rw [((show fR N7 3 8 = fR N5 3 8 from by rw [eN7]; exact fR_wI).trans (show fR N5 3 8 = fR N3 3 8 from by rw [eN5]; exact fR_wI)).trans (show fR N3 3 8 = fR M 3 8 from by rw [eN3]; exact fR_wI)]; exact a_t) rfl)) H
    rw [((show fR N7 3 8 = fR N5 3 8 from by rw [eN7]; exact fR_wI).trans (show fR N5 3 8 = fR N3 3 8 from by rw [eN5]; exact fR_wI)).trans (show fR N3 3 8 = fR M 3 8 from by rw [eN3]; exact fR_wI)] at H
    have H : Ev none e 40 65 [some (.ref 3), some (.int x), some (.int y), some (.int z)] [.ref (fR M 3 8), .ref (fR M 3 8)] N7 v M' 0 0 := Ev.back 1 (fun n => rfl) H
    have H : Ev none e 40 68 [some (.ref 3), some (.int x), some (.int y), some (.int z)] [.int (zI N7 (fR M 3 8) 9), .ref (fR M 3 8)] N7 v M' 0 0 := Ev.back 1 (gs_3 rfl rfl (gf_i hN7.1 a_t qi_28_9 rfl)) H
    rw [((show zI N7 (fR M 3 8) 9 = zI N5 (fR M 3 8) 9 from by rw [eN7]; exact fI_wI).trans (show zI N5 (fR M 3 8) 9 = zI N3 (fR M 3 8) 9 from by rw [eN5]; exact fI_wI)).trans (show zI N3 (fR M 3 8) 9 = zI M (fR M 3 8) 9 from by rw [eN3]; exact fI_wI)] at H
    have H : Ev none e 40 70 [some (.ref 3), some (.int x), some (.int y), some (.int z)] [.int ((zI M (fR M 3 8) 9) + 1), .ref (fR M 3 8)] N7 v M' 0 0 := Ev.back 2 (fun n => rfl) H
    obtain ⟨N9, eN9⟩ : ∃ N, N = (wF N7 (fR M 3 8) 9 ((zI M (fR M 3 8) 9) + 1)) := ⟨_, rfl⟩
    have hN9 : SQ N9 := by rw [eN9]; exact hN7.kf
    have H : Ev none e 40 73 [some (.ref 3), some (.int x), some (.int y), some (.int z)] [] N9 v M' 0 0 := by rw [eN9]; exact Ev.pfi rfl rfl rfl hN7.1 a_t qi_28_9 H
    obtain ⟨p1, p2⟩ := Ev.retb (fun n => rfl) H
    subst eN3 eN5 eN7 eN9
    exact ⟨p1, by rw [if_neg h1]; exact p2⟩
theorem X_40_sx {M : Mem} {x y z : Int32} (hS : SQ M) : SQ (X_40 M x y z) := by
  unfold X_40
  split
  · exact hS
  · exact (((hS.ki).ki).ki).kf
theorem cm_0 {e : Nat} {M M' : Mem} {v : Option Value} {ak : Int32} (hS : SQ M) (H : Ev none e 39 0 [some (.ref 3), some (.int ak), none, none] [] M v M' 0 0) : ((zI M 3 7) = 60 ∧ (∃ e1 v1 M1, e = e1 + 1 ∧ Ev none e1 31 0 [some (.ref 3)] [] M v1 M1 0 0 ∧ Ev none e 39 33 [some (.ref 3), some (.int ak), some (.int (zI M 3 7)), none] (v1.toList ++ []) M1 v M' 0 0)) ∨ (¬ ((zI M 3 7) = 60) ∧ (zI M 3 7) = 61 ∧ (∃ e1 v1 M1, e = e1 + 1 ∧ Ev none e1 31 0 [some (.ref 3)] [] M v1 M1 0 0 ∧ Ev none e 39 33 [some (.ref 3), some (.int ak), some (.int (zI M 3 7)), none] (v1.toList ++ []) M1 v M' 0 0)) ∨ (¬ ((zI M 3 7) = 60) ∧ ¬ ((zI M 3 7) = 61) ∧ (zI M 3 7) = 62 ∧ (∃ e1 v1 M1, e = e1 + 1 ∧ Ev none e1 31 0 [some (.ref 3)] [] M v1 M1 0 0 ∧ Ev none e 39 33 [some (.ref 3), some (.int ak), some (.int (zI M 3 7)), none] (v1.toList ++ []) M1 v M' 0 0)) ∨ (¬ ((zI M 3 7) = 60) ∧ ¬ ((zI M 3 7) = 61) ∧ ¬ ((zI M 3 7) = 62) ∧ (∃ e1 v1 M1, e = e1 + 1 ∧ Ev none e1 27 0 [some (.ref 3), some (.int 1)] [] M v1 M1 0 0 ∧ Ev none e 39 28 [some (.ref 3), some (.int ak), some (.int (zI M 3 7)), none] (v1.toList ++ []) M1 v M' 0 0)) := by
  have H : Ev none e 39 1 [some (.ref 3), some (.int ak), none, none] [.ref 3] M v M' 0 0 := Ev.back 1 (fun n => rfl) H
  have H : Ev none e 39 4 [some (.ref 3), some (.int ak), none, none] [.int (zI M 3 7)] M v M' 0 0 := Ev.back 1 (gs_3 rfl rfl (gf_i hS.1 qa_3 qi_3_7 rfl)) H
  have H : Ev none e 39 (if (zI M 3 7) = 60 then 29 else 11) [some (.ref 3), some (.int ak), some (.int (zI M 3 7)), none] [] M v M' 0 0 := Ev.back 4 (fun n => rfl) H
  by_cases h1 : (zI M 3 7) = 60
  · rw [if_pos h1] at H
    have H : Ev none e 39 30 [some (.ref 3), some (.int ak), some (.int (zI M 3 7)), none] [.ref 3] M v M' 0 0 := Ev.back 1 (fun n => rfl) H
    obtain ⟨e1, rfl⟩ := Ev.dpos rfl rfl H
    obtain ⟨vK2, MK2, K2, H⟩ := Ev.callb (fun n => gs_7 rfl rfl (show gCal (.invokevirtual 140) 3 (.ref 3 :: []) M = some (.inr (31, [some (.ref 3)], [])) from by show @cond (Option ((List Value × Mem) ⊕ (Nat × Lo × List Value))) (true && gRecv M (.ref 3) 3 && gRoom [] && true) (some (.inr (31, [some (.ref 3)], []))) none = _; rw [recv_s hS.1 qa_3 qo_3]; rfl)) H
    have K2 : Ev none e1 31 0 [some (.ref 3)] [] M vK2 MK2 0 0 := K2
    have HF := H
    exact Or.inl ⟨h1, ⟨e1, vK2, MK2, rfl, K2, HF⟩⟩
  · rw [if_neg h1] at H
    have H : Ev none e 39 (if (zI M 3 7) = 61 then 29 else 17) [some (.ref 3), some (.int ak), some (.int (zI M 3 7)), none] [] M v M' 0 0 := Ev.back 3 (fun n => rfl) H
    by_cases h3 : (zI M 3 7) = 61
    · rw [if_pos h3] at H
      have H : Ev none e 39 30 [some (.ref 3), some (.int ak), some (.int (zI M 3 7)), none] [.ref 3] M v M' 0 0 := Ev.back 1 (fun n => rfl) H
      obtain ⟨e1, rfl⟩ := Ev.dpos rfl rfl H
      obtain ⟨vK4, MK4, K4, H⟩ := Ev.callb (fun n => gs_7 rfl rfl (show gCal (.invokevirtual 140) 3 (.ref 3 :: []) M = some (.inr (31, [some (.ref 3)], [])) from by show @cond (Option ((List Value × Mem) ⊕ (Nat × Lo × List Value))) (true && gRecv M (.ref 3) 3 && gRoom [] && true) (some (.inr (31, [some (.ref 3)], []))) none = _; rw [recv_s hS.1 qa_3 qo_3]; rfl)) H
      have K4 : Ev none e1 31 0 [some (.ref 3)] [] M vK4 MK4 0 0 := K4
      have HF := H
      exact Or.inr (Or.inl ⟨h1, h3, ⟨e1, vK4, MK4, rfl, K4, HF⟩⟩)
    · rw [if_neg h3] at H
      have H : Ev none e 39 (if (zI M 3 7) = 62 then 29 else 23) [some (.ref 3), some (.int ak), some (.int (zI M 3 7)), none] [] M v M' 0 0 := Ev.back 3 (fun n => rfl) H
      by_cases h5 : (zI M 3 7) = 62
      · rw [if_pos h5] at H
        have H : Ev none e 39 30 [some (.ref 3), some (.int ak), some (.int (zI M 3 7)), none] [.ref 3] M v M' 0 0 := Ev.back 1 (fun n => rfl) H
        obtain ⟨e1, rfl⟩ := Ev.dpos rfl rfl H
        obtain ⟨vK6, MK6, K6, H⟩ := Ev.callb (fun n => gs_7 rfl rfl (show gCal (.invokevirtual 140) 3 (.ref 3 :: []) M = some (.inr (31, [some (.ref 3)], [])) from by show @cond (Option ((List Value × Mem) ⊕ (Nat × Lo × List Value))) (true && gRecv M (.ref 3) 3 && gRoom [] && true) (some (.inr (31, [some (.ref 3)], []))) none = _; rw [recv_s hS.1 qa_3 qo_3]; rfl)) H
        have K6 : Ev none e1 31 0 [some (.ref 3)] [] M vK6 MK6 0 0 := K6
        have HF := H
        exact Or.inr (Or.inr (Or.inl ⟨h1, h3, h5, ⟨e1, vK6, MK6, rfl, K6, HF⟩⟩))
      · rw [if_neg h5] at H
        have H : Ev none e 39 25 [some (.ref 3), some (.int ak), some (.int (zI M 3 7)), none] [.int 1, .ref 3] M v M' 0 0 := Ev.back 2 (fun n => rfl) H
        obtain ⟨e1, rfl⟩ := Ev.dpos rfl rfl H
        obtain ⟨vK7, MK7, K7, H⟩ := Ev.callb (fun n => gs_7 rfl rfl (show gCal (.invokevirtual 68) 3 (.int 1 :: .ref 3 :: []) M = some (.inr (27, [some (.ref 3), some (.int 1)], [])) from by show @cond (Option ((List Value × Mem) ⊕ (Nat × Lo × List Value))) (true && gRecv M (.ref 3) 3 && gRoom [] && true) (some (.inr (27, [some (.ref 3), some (.int 1)], []))) none = _; rw [recv_s hS.1 qa_3 qo_3]; rfl)) H
        have K7 : Ev none e1 27 0 [some (.ref 3), some (.int 1)] [] M vK7 MK7 0 0 := K7
        have HF := H
        exact Or.inr (Or.inr (Or.inr (⟨h1, h3, h5, ⟨e1, vK7, MK7, rfl, K7, HF⟩⟩)))
theorem cm_28 {e : Nat} {M M' : Mem} {v : Option Value} {ak sg y : Int32} (hS : SQ M) (H : Ev none e 39 28 [some (.ref 3), some (.int ak), some (.int sg), none] [.int y] M v M' 0 0) : v = some (.int y) ∧ M' = M := by
  obtain ⟨z1, z2⟩ := Ev.retz rfl rfl H
  exact ⟨z1, z2⟩
theorem cm_33 {e : Nat} {M M' : Mem} {v : Option Value} {ak sg : Int32} (hS : SQ M) (H : Ev none e 39 33 [some (.ref 3), some (.int ak), some (.int sg), none] [] M v M' 0 0) : ((zI M 3 7) = 3 ∧ sg = 60 ∧ (∃ e1 v1 M1, e = e1 + 1 ∧ Ev none e1 40 0 [some (.ref 3), some (.int ak), some (.int 0), some (.int ((rI M 7 (zI M 3 6)) - 1))] [] M v1 M1 0 0 ∧ Ev none e 39 72 [some (.ref 3), some (.int ak), some (.int sg), some (.int (rI M 7 (zI M 3 6)))] (v1.toList ++ []) M1 v M' 0 0)) ∨ ((zI M 3 7) = 3 ∧ ¬ (sg = 60) ∧ sg = 61 ∧ (∃ e1 v1 M1, e = e1 + 1 ∧ Ev none e1 40 0 [some (.ref 3), some (.int ak), some (.int (rI M 7 (zI M 3 6))), some (.int (rI M 7 (zI M 3 6)))] [] M v1 M1 0 0 ∧ Ev none e 39 88 [some (.ref 3), some (.int ak), some (.int sg), some (.int (rI M 7 (zI M 3 6)))] (v1.toList ++ []) M1 v M' 0 0)) ∨ ((zI M 3 7) = 3 ∧ ¬ (sg = 60) ∧ ¬ (sg = 61) ∧ (∃ e1 v1 M1, e = e1 + 1 ∧ Ev none e1 40 0 [some (.ref 3), some (.int ak), some (.int ((rI M 7 (zI M 3 6)) + 1)), some (.int 2147483647)] [] M v1 M1 0 0 ∧ Ev none e 39 101 [some (.ref 3), some (.int ak), some (.int sg), some (.int (rI M 7 (zI M 3 6)))] (v1.toList ++ []) M1 v M' 0 0)) ∨ (¬ ((zI M 3 7) = 3) ∧ (∃ e1 v1 M1, e = e1 + 1 ∧ Ev none e1 27 0 [some (.ref 3), some (.int 1)] [] M v1 M1 0 0 ∧ Ev none e 39 46 [some (.ref 3), some (.int ak), some (.int sg), none] (v1.toList ++ []) M1 v M' 0 0)) := by
  have H : Ev none e 39 34 [some (.ref 3), some (.int ak), some (.int sg), none] [.ref 3] M v M' 0 0 := Ev.back 1 (fun n => rfl) H
  have H : Ev none e 39 37 [some (.ref 3), some (.int ak), some (.int sg), none] [.int (zI M 3 7)] M v M' 0 0 := Ev.back 1 (gs_3 rfl rfl (gf_i hS.1 qa_3 qi_3_7 rfl)) H
  have H : Ev none e 39 (if (zI M 3 7) = 3 then 47 else 41) [some (.ref 3), some (.int ak), some (.int sg), none] [] M v M' 0 0 := Ev.back 2 (fun n => rfl) H
  by_cases h1 : (zI M 3 7) = 3
  · rw [if_pos h1] at H
    have H : Ev none e 39 48 [some (.ref 3), some (.int ak), some (.int sg), none] [.ref 3] M v M' 0 0 := Ev.back 1 (fun n => rfl) H
    have H : Ev none e 39 51 [some (.ref 3), some (.int ak), some (.int sg), none] [.ref 7] M v M' 0 0 := Ev.back 1 (gs_3 rfl rfl (gf_u hS.1 qa_3 qr_3_4 qu_7 rfl)) H
    have H : Ev none e 39 52 [some (.ref 3), some (.int ak), some (.int sg), none] [.ref 3, .ref 7] M v M' 0 0 := Ev.back 1 (fun n => rfl) H
    have H : Ev none e 39 55 [some (.ref 3), some (.int ak), some (.int sg), none] [.int (zI M 3 6), .ref 7] M v M' 0 0 := Ev.back 1 (gs_3 rfl rfl (gf_i hS.1 qa_3 qi_3_6 rfl)) H
    obtain ⟨b2, H⟩ := Ev.ial rfl rfl hS.1 qa_7 qw_7 H
    have H : Ev none e 39 56 [some (.ref 3), some (.int ak), some (.int sg), none] [.int (rI M 7 (zI M 3 6))] M v M' 0 0 := H
    have H : Ev none e 39 (if sg = 60 then 63 else 75) [some (.ref 3), some (.int ak), some (.int sg), some (.int (rI M 7 (zI M 3 6)))] [] M v M' 0 0 := Ev.back 4 (fun n => rfl) H
    by_cases h3 : sg = 60
    · rw [if_pos h3] at H
      have H : Ev none e 39 69 [some (.ref 3), some (.int ak), some (.int sg), some (.int (rI M 7 (zI M 3 6)))] [.int ((rI M 7 (zI M 3 6)) - 1), .int 0, .int ak, .ref 3] M v M' 0 0 := Ev.back 6 (fun n => rfl) H
      obtain ⟨e1, rfl⟩ := Ev.dpos rfl rfl H
      obtain ⟨vK4, MK4, K4, H⟩ := Ev.callb (fun n => gs_7 rfl rfl (show gCal (.invokevirtual 173) 3 (.int ((rI M 7 (zI M 3 6)) - 1) :: .int 0 :: .int ak :: .ref 3 :: []) M = some (.inr (40, [some (.ref 3), some (.int ak), some (.int 0), some (.int ((rI M 7 (zI M 3 6)) - 1))], [])) from by show @cond (Option ((List Value × Mem) ⊕ (Nat × Lo × List Value))) (true && gRecv M (.ref 3) 3 && gRoom [] && true) (some (.inr (40, [some (.ref 3), some (.int ak), some (.int 0), some (.int ((rI M 7 (zI M 3 6)) - 1))], []))) none = _; rw [recv_s hS.1 qa_3 qo_3]; rfl)) H
      have K4 : Ev none e1 40 0 [some (.ref 3), some (.int ak), some (.int 0), some (.int ((rI M 7 (zI M 3 6)) - 1))] [] M vK4 MK4 0 0 := K4
      have HF := H
      exact Or.inl ⟨h1, h3, ⟨e1, vK4, MK4, rfl, K4, HF⟩⟩
    · rw [if_neg h3] at H
      have H : Ev none e 39 (if sg = 61 then 81 else 91) [some (.ref 3), some (.int ak), some (.int sg), some (.int (rI M 7 (zI M 3 6)))] [] M v M' 0 0 := Ev.back 3 (fun n => rfl) H
      by_cases h5 : sg = 61
      · rw [if_pos h5] at H
        have H : Ev none e 39 85 [some (.ref 3), some (.int ak), some (.int sg), some (.int (rI M 7 (zI M 3 6)))] [.int (rI M 7 (zI M 3 6)), .int (rI M 7 (zI M 3 6)), .int ak, .ref 3] M v M' 0 0 := Ev.back 4 (fun n => rfl) H
        obtain ⟨e1, rfl⟩ := Ev.dpos rfl rfl H
        obtain ⟨vK6, MK6, K6, H⟩ := Ev.callb (fun n => gs_7 rfl rfl (show gCal (.invokevirtual 173) 3 (.int (rI M 7 (zI M 3 6)) :: .int (rI M 7 (zI M 3 6)) :: .int ak :: .ref 3 :: []) M = some (.inr (40, [some (.ref 3), some (.int ak), some (.int (rI M 7 (zI M 3 6))), some (.int (rI M 7 (zI M 3 6)))], [])) from by show @cond (Option ((List Value × Mem) ⊕ (Nat × Lo × List Value))) (true && gRecv M (.ref 3) 3 && gRoom [] && true) (some (.inr (40, [some (.ref 3), some (.int ak), some (.int (rI M 7 (zI M 3 6))), some (.int (rI M 7 (zI M 3 6)))], []))) none = _; rw [recv_s hS.1 qa_3 qo_3]; rfl)) H
        have K6 : Ev none e1 40 0 [some (.ref 3), some (.int ak), some (.int (rI M 7 (zI M 3 6))), some (.int (rI M 7 (zI M 3 6)))] [] M vK6 MK6 0 0 := K6
        have HF := H
        exact Or.inr (Or.inl ⟨h1, h3, h5, ⟨e1, vK6, MK6, rfl, K6, HF⟩⟩)
      · rw [if_neg h5] at H
        have H : Ev none e 39 98 [some (.ref 3), some (.int ak), some (.int sg), some (.int (rI M 7 (zI M 3 6)))] [.int 2147483647, .int ((rI M 7 (zI M 3 6)) + 1), .int ak, .ref 3] M v M' 0 0 := Ev.back 6 (fun n => rfl) H
        obtain ⟨e1, rfl⟩ := Ev.dpos rfl rfl H
        obtain ⟨vK7, MK7, K7, H⟩ := Ev.callb (fun n => gs_7 rfl rfl (show gCal (.invokevirtual 173) 3 (.int 2147483647 :: .int ((rI M 7 (zI M 3 6)) + 1) :: .int ak :: .ref 3 :: []) M = some (.inr (40, [some (.ref 3), some (.int ak), some (.int ((rI M 7 (zI M 3 6)) + 1)), some (.int 2147483647)], [])) from by show @cond (Option ((List Value × Mem) ⊕ (Nat × Lo × List Value))) (true && gRecv M (.ref 3) 3 && gRoom [] && true) (some (.inr (40, [some (.ref 3), some (.int ak), some (.int ((rI M 7 (zI M 3 6)) + 1)), some (.int 2147483647)], []))) none = _; rw [recv_s hS.1 qa_3 qo_3]; rfl)) H
        have K7 : Ev none e1 40 0 [some (.ref 3), some (.int ak), some (.int ((rI M 7 (zI M 3 6)) + 1)), some (.int 2147483647)] [] M vK7 MK7 0 0 := K7
        have HF := H
        exact Or.inr (Or.inr (Or.inl ⟨h1, h3, h5, ⟨e1, vK7, MK7, rfl, K7, HF⟩⟩))
  · rw [if_neg h1] at H
    have H : Ev none e 39 43 [some (.ref 3), some (.int ak), some (.int sg), none] [.int 1, .ref 3] M v M' 0 0 := Ev.back 2 (fun n => rfl) H
    obtain ⟨e1, rfl⟩ := Ev.dpos rfl rfl H
    obtain ⟨vK8, MK8, K8, H⟩ := Ev.callb (fun n => gs_7 rfl rfl (show gCal (.invokevirtual 68) 3 (.int 1 :: .ref 3 :: []) M = some (.inr (27, [some (.ref 3), some (.int 1)], [])) from by show @cond (Option ((List Value × Mem) ⊕ (Nat × Lo × List Value))) (true && gRecv M (.ref 3) 3 && gRoom [] && true) (some (.inr (27, [some (.ref 3), some (.int 1)], []))) none = _; rw [recv_s hS.1 qa_3 qo_3]; rfl)) H
    have K8 : Ev none e1 27 0 [some (.ref 3), some (.int 1)] [] M vK8 MK8 0 0 := K8
    have HF := H
    exact Or.inr (Or.inr (Or.inr (⟨h1, ⟨e1, vK8, MK8, rfl, K8, HF⟩⟩)))
theorem cm_46 {e : Nat} {M M' : Mem} {v : Option Value} {ak sg y : Int32} (hS : SQ M) (H : Ev none e 39 46 [some (.ref 3), some (.int ak), some (.int sg), none] [.int y] M v M' 0 0) : v = some (.int y) ∧ M' = M := by
  obtain ⟨z1, z2⟩ := Ev.retz rfl rfl H
  exact ⟨z1, z2⟩
theorem cm_72 {e : Nat} {M M' : Mem} {v : Option Value} {ak sg nn : Int32} (hS : SQ M) (H : Ev none e 39 72 [some (.ref 3), some (.int ak), some (.int sg), some (.int nn)] [] M v M' 0 0) : (∃ e1 v1 M1, e = e1 + 1 ∧ Ev none e1 31 0 [some (.ref 3)] [] M v1 M1 0 0 ∧ Ev none e 39 105 [some (.ref 3), some (.int ak), some (.int sg), some (.int nn)] (v1.toList ++ []) M1 v M' 0 0) := by
  have H : Ev none e 39 102 [some (.ref 3), some (.int ak), some (.int sg), some (.int nn)] [.ref 3] M v M' 0 0 := Ev.back 2 (fun n => rfl) H
  obtain ⟨e1, rfl⟩ := Ev.dpos rfl rfl H
  obtain ⟨vK1, MK1, K1, H⟩ := Ev.callb (fun n => gs_7 rfl rfl (show gCal (.invokevirtual 140) 3 (.ref 3 :: []) M = some (.inr (31, [some (.ref 3)], [])) from by show @cond (Option ((List Value × Mem) ⊕ (Nat × Lo × List Value))) (true && gRecv M (.ref 3) 3 && gRoom [] && true) (some (.inr (31, [some (.ref 3)], []))) none = _; rw [recv_s hS.1 qa_3 qo_3]; rfl)) H
  have K1 : Ev none e1 31 0 [some (.ref 3)] [] M vK1 MK1 0 0 := K1
  have HF := H
  exact ⟨e1, vK1, MK1, rfl, K1, HF⟩
theorem cm_88 {e : Nat} {M M' : Mem} {v : Option Value} {ak sg nn : Int32} (hS : SQ M) (H : Ev none e 39 88 [some (.ref 3), some (.int ak), some (.int sg), some (.int nn)] [] M v M' 0 0) : (∃ e1 v1 M1, e = e1 + 1 ∧ Ev none e1 31 0 [some (.ref 3)] [] M v1 M1 0 0 ∧ Ev none e 39 105 [some (.ref 3), some (.int ak), some (.int sg), some (.int nn)] (v1.toList ++ []) M1 v M' 0 0) := by
  have H : Ev none e 39 102 [some (.ref 3), some (.int ak), some (.int sg), some (.int nn)] [.ref 3] M v M' 0 0 := Ev.back 2 (fun n => rfl) H
  obtain ⟨e1, rfl⟩ := Ev.dpos rfl rfl H
  obtain ⟨vK1, MK1, K1, H⟩ := Ev.callb (fun n => gs_7 rfl rfl (show gCal (.invokevirtual 140) 3 (.ref 3 :: []) M = some (.inr (31, [some (.ref 3)], [])) from by show @cond (Option ((List Value × Mem) ⊕ (Nat × Lo × List Value))) (true && gRecv M (.ref 3) 3 && gRoom [] && true) (some (.inr (31, [some (.ref 3)], []))) none = _; rw [recv_s hS.1 qa_3 qo_3]; rfl)) H
  have K1 : Ev none e1 31 0 [some (.ref 3)] [] M vK1 MK1 0 0 := K1
  have HF := H
  exact ⟨e1, vK1, MK1, rfl, K1, HF⟩
theorem cm_101 {e : Nat} {M M' : Mem} {v : Option Value} {ak sg nn : Int32} (hS : SQ M) (H : Ev none e 39 101 [some (.ref 3), some (.int ak), some (.int sg), some (.int nn)] [] M v M' 0 0) : (∃ e1 v1 M1, e = e1 + 1 ∧ Ev none e1 31 0 [some (.ref 3)] [] M v1 M1 0 0 ∧ Ev none e 39 105 [some (.ref 3), some (.int ak), some (.int sg), some (.int nn)] (v1.toList ++ []) M1 v M' 0 0) := by
  have H : Ev none e 39 102 [some (.ref 3), some (.int ak), some (.int sg), some (.int nn)] [.ref 3] M v M' 0 0 := Ev.back 1 (fun n => rfl) H
  obtain ⟨e1, rfl⟩ := Ev.dpos rfl rfl H
  obtain ⟨vK1, MK1, K1, H⟩ := Ev.callb (fun n => gs_7 rfl rfl (show gCal (.invokevirtual 140) 3 (.ref 3 :: []) M = some (.inr (31, [some (.ref 3)], [])) from by show @cond (Option ((List Value × Mem) ⊕ (Nat × Lo × List Value))) (true && gRecv M (.ref 3) 3 && gRoom [] && true) (some (.inr (31, [some (.ref 3)], []))) none = _; rw [recv_s hS.1 qa_3 qo_3]; rfl)) H
  have K1 : Ev none e1 31 0 [some (.ref 3)] [] M vK1 MK1 0 0 := K1
  have HF := H
  exact ⟨e1, vK1, MK1, rfl, K1, HF⟩
theorem cm_105 {e : Nat} {M M' : Mem} {v : Option Value} {ak sg nn : Int32} (hS : SQ M) (H : Ev none e 39 105 [some (.ref 3), some (.int ak), some (.int sg), some (.int nn)] [] M v M' 0 0) : v = some (.int 1) ∧ M' = M := by
  have H : Ev none e 39 106 [some (.ref 3), some (.int ak), some (.int sg), some (.int nn)] [.int 1] M v M' 0 0 := Ev.back 1 (fun n => rfl) H
  obtain ⟨z1, z2⟩ := Ev.retz rfl rfl H
  exact ⟨z1, z2⟩
theorem onq_0 {e : Nat} {M M' : Mem} {v : Option Value} {dz : Int32} (hS : SQ M) (H : Ev none e 38 0 [some (.ref 3), some (.int dz), none, none] [] M v M' 0 0) : (∃ e1 v1 M1, e = e1 + 1 ∧ Ev none e1 32 0 [some (.ref 3), some (.retAddr 16), none, none, none, none, none, none] [] M v1 M1 0 0 ∧ Ev none e 38 6 [some (.ref 3), some (.int dz), none, none] (v1.toList ++ []) M1 v M' 0 0) := by
  have H : Ev none e 38 3 [some (.ref 3), some (.int dz), none, none] [.retAddr 16, .ref 3] M v M' 0 0 := Ev.back 2 (fun n => rfl) H
  obtain ⟨e1, rfl⟩ := Ev.dpos rfl rfl H
  obtain ⟨vK1, MK1, K1, H⟩ := Ev.callb (fun n => gs_7 rfl rfl (show gCal (.invokevirtual 115) 3 (.retAddr 16 :: .ref 3 :: []) M = some (.inr (32, [some (.ref 3), some (.retAddr 16), none, none, none, none, none, none], [])) from by show @cond (Option ((List Value × Mem) ⊕ (Nat × Lo × List Value))) (true && gRecv M (.ref 3) 3 && gRoom [] && true) (some (.inr (32, [some (.ref 3), some (.retAddr 16), none, none, none, none, none, none], []))) none = _; rw [recv_s hS.1 qa_3 qo_3]; rfl)) H
  have K1 : Ev none e1 32 0 [some (.ref 3), some (.retAddr 16), none, none, none, none, none, none] [] M vK1 MK1 0 0 := K1
  have HF := H
  exact ⟨e1, vK1, MK1, rfl, K1, HF⟩
theorem onq_6 {e : Nat} {M M' : Mem} {v : Option Value} {dz a : Int32} (hS : SQ M) (H : Ev none e 38 6 [some (.ref 3), some (.int dz), none, none] [.int a] M v M' 0 0) : (0 ≤ a ∧ 40 ≤ (zI M 3 11) ∧ (∃ e1 v1 M1, e = e1 + 1 ∧ Ev none e1 27 0 [some (.ref 3), some (.int 4)] [] M v1 M1 0 0 ∧ Ev none e 38 46 [some (.ref 3), some (.int dz), some (.int a), none] (v1.toList ++ []) M1 v M' 0 0)) ∨ (0 ≤ a ∧ ¬ (40 ≤ (zI M 3 11)) ∧ dz ≤ 10 ∧ (∃ e1 v1 M1, e = e1 + 1 ∧ Ev none e1 31 0 [some (.ref 3)] [] (wF M 3 11 ((zI M 3 11) + 1)) v1 M1 0 0 ∧ Ev none e 38 61 [some (.ref 3), some (.int dz), some (.int a), none] (v1.toList ++ []) M1 v M' 0 0)) ∨ (0 ≤ a ∧ ¬ (40 ≤ (zI M 3 11)) ∧ ¬ (dz ≤ 10) ∧ (∃ e1 v1 M1, e = e1 + 1 ∧ Ev none e1 27 0 [some (.ref 3), some (.int 4)] [] M v1 M1 0 0 ∧ Ev none e 38 46 [some (.ref 3), some (.int dz), some (.int a), none] (v1.toList ++ []) M1 v M' 0 0)) ∨ (¬ (0 ≤ a) ∧ (zI M 3 7) = 40 ∧ 40 ≤ (zI M 3 11) ∧ (∃ e1 v1 M1, e = e1 + 1 ∧ Ev none e1 27 0 [some (.ref 3), some (.int 4)] [] M v1 M1 0 0 ∧ Ev none e 38 46 [some (.ref 3), some (.int dz), some (.int a), none] (v1.toList ++ []) M1 v M' 0 0)) ∨ (¬ (0 ≤ a) ∧ (zI M 3 7) = 40 ∧ ¬ (40 ≤ (zI M 3 11)) ∧ dz ≤ 10 ∧ (∃ e1 v1 M1, e = e1 + 1 ∧ Ev none e1 31 0 [some (.ref 3)] [] (wF M 3 11 ((zI M 3 11) + 1)) v1 M1 0 0 ∧ Ev none e 38 61 [some (.ref 3), some (.int dz), some (.int a), none] (v1.toList ++ []) M1 v M' 0 0)) ∨ (¬ (0 ≤ a) ∧ (zI M 3 7) = 40 ∧ ¬ (40 ≤ (zI M 3 11)) ∧ ¬ (dz ≤ 10) ∧ (∃ e1 v1 M1, e = e1 + 1 ∧ Ev none e1 27 0 [some (.ref 3), some (.int 4)] [] M v1 M1 0 0 ∧ Ev none e 38 46 [some (.ref 3), some (.int dz), some (.int a), none] (v1.toList ++ []) M1 v M' 0 0)) ∨ (¬ (0 ≤ a) ∧ ¬ ((zI M 3 7) = 40) ∧ (∃ e1 v1 M1, e = e1 + 1 ∧ Ev none e1 27 0 [some (.ref 3), some (.int 1)] [] M v1 M1 0 0 ∧ Ev none e 38 25 [some (.ref 3), some (.int dz), some (.int a), none] (v1.toList ++ []) M1 v M' 0 0)) := by
  have H : Ev none e 38 (if 0 ≤ a then 26 else 11) [some (.ref 3), some (.int dz), some (.int a), none] [] M v M' 0 0 := Ev.back 3 (fun n => rfl) H
  by_cases h1 : 0 ≤ a
  · rw [if_pos h1] at H
    have H : Ev none e 38 27 [some (.ref 3), some (.int dz), some (.int a), none] [.ref 3] M v M' 0 0 := Ev.back 1 (fun n => rfl) H
    have H : Ev none e 38 30 [some (.ref 3), some (.int dz), some (.int a), none] [.int (zI M 3 11)] M v M' 0 0 := Ev.back 1 (gs_3 rfl rfl (gf_i hS.1 qa_3 qi_3_11 rfl)) H
    have H : Ev none e 38 (if 40 ≤ (zI M 3 11) then 41 else 35) [some (.ref 3), some (.int dz), some (.int a), none] [] M v M' 0 0 := Ev.back 2 (fun n => rfl) H
    by_cases h2 : 40 ≤ (zI M 3 11)
    · rw [if_pos h2] at H
      have H : Ev none e 38 43 [some (.ref 3), some (.int dz), some (.int a), none] [.int 4, .ref 3] M v M' 0 0 := Ev.back 2 (fun n => rfl) H
      obtain ⟨e1, rfl⟩ := Ev.dpos rfl rfl H
      obtain ⟨vK3, MK3, K3, H⟩ := Ev.callb (fun n => gs_7 rfl rfl (show gCal (.invokevirtual 68) 3 (.int 4 :: .ref 3 :: []) M = some (.inr (27, [some (.ref 3), some (.int 4)], [])) from by show @cond (Option ((List Value × Mem) ⊕ (Nat × Lo × List Value))) (true && gRecv M (.ref 3) 3 && gRoom [] && true) (some (.inr (27, [some (.ref 3), some (.int 4)], []))) none = _; rw [recv_s hS.1 qa_3 qo_3]; rfl)) H
      have K3 : Ev none e1 27 0 [some (.ref 3), some (.int 4)] [] M vK3 MK3 0 0 := K3
      have HF := H
      exact Or.inl ⟨h1, h2, ⟨e1, vK3, MK3, rfl, K3, HF⟩⟩
    · rw [if_neg h2] at H
      have H : Ev none e 38 (if dz ≤ 10 then 47 else 41) [some (.ref 3), some (.int dz), some (.int a), none] [] M v M' 0 0 := Ev.back 3 (fun n => rfl) H
      by_cases h4 : dz ≤ 10
      · rw [if_pos h4] at H
        have H : Ev none e 38 49 [some (.ref 3), some (.int dz), some (.int a), none] [.ref 3, .ref 3] M v M' 0 0 := Ev.back 2 (fun n => rfl) H
        have H : Ev none e 38 52 [some (.ref 3), some (.int dz), some (.int a), none] [.int (zI M 3 11), .ref 3] M v M' 0 0 := Ev.back 1 (gs_3 rfl rfl (gf_i hS.1 qa_3 qi_3_11 rfl)) H
        have H : Ev none e 38 54 [some (.ref 3), some (.int dz), some (.int a), none] [.int ((zI M 3 11) + 1), .ref 3] M v M' 0 0 := Ev.back 2 (fun n => rfl) H
        obtain ⟨N6, eN6⟩ : ∃ N, N = (wF M 3 11 ((zI M 3 11) + 1)) := ⟨_, rfl⟩
        have hN6 : SQ N6 := by rw [eN6]; exact hS.kf
        have H : Ev none e 38 57 [some (.ref 3), some (.int dz), some (.int a), none] [] N6 v M' 0 0 := by rw [eN6]; exact Ev.pfi rfl rfl rfl hS.1 qa_3 qi_3_11 H
        have H : Ev none e 38 58 [some (.ref 3), some (.int dz), some (.int a), none] [.ref 3] N6 v M' 0 0 := Ev.back 1 (fun n => rfl) H
        obtain ⟨e1, rfl⟩ := Ev.dpos rfl rfl H
        obtain ⟨vK7, MK7, K7, H⟩ := Ev.callb (fun n => gs_7 rfl rfl (show gCal (.invokevirtual 140) 3 (.ref 3 :: []) N6 = some (.inr (31, [some (.ref 3)], [])) from by show @cond (Option ((List Value × Mem) ⊕ (Nat × Lo × List Value))) (true && gRecv N6 (.ref 3) 3 && gRoom [] && true) (some (.inr (31, [some (.ref 3)], []))) none = _; rw [recv_s hN6.1 qa_3 qo_3]; rfl)) H
        have K7 : Ev none e1 31 0 [some (.ref 3)] [] N6 vK7 MK7 0 0 := K7
        have HF := H
        subst eN6
        exact Or.inr (Or.inl ⟨h1, h2, h4, ⟨e1, vK7, MK7, rfl, K7, HF⟩⟩)
      · rw [if_neg h4] at H
        have H : Ev none e 38 43 [some (.ref 3), some (.int dz), some (.int a), none] [.int 4, .ref 3] M v M' 0 0 := Ev.back 2 (fun n => rfl) H
        obtain ⟨e1, rfl⟩ := Ev.dpos rfl rfl H
        obtain ⟨vK8, MK8, K8, H⟩ := Ev.callb (fun n => gs_7 rfl rfl (show gCal (.invokevirtual 68) 3 (.int 4 :: .ref 3 :: []) M = some (.inr (27, [some (.ref 3), some (.int 4)], [])) from by show @cond (Option ((List Value × Mem) ⊕ (Nat × Lo × List Value))) (true && gRecv M (.ref 3) 3 && gRoom [] && true) (some (.inr (27, [some (.ref 3), some (.int 4)], []))) none = _; rw [recv_s hS.1 qa_3 qo_3]; rfl)) H
        have K8 : Ev none e1 27 0 [some (.ref 3), some (.int 4)] [] M vK8 MK8 0 0 := K8
        have HF := H
        exact Or.inr (Or.inr (Or.inl ⟨h1, h2, h4, ⟨e1, vK8, MK8, rfl, K8, HF⟩⟩))
  · rw [if_neg h1] at H
    have H : Ev none e 38 12 [some (.ref 3), some (.int dz), some (.int a), none] [.ref 3] M v M' 0 0 := Ev.back 1 (fun n => rfl) H
    have H : Ev none e 38 15 [some (.ref 3), some (.int dz), some (.int a), none] [.int (zI M 3 7)] M v M' 0 0 := Ev.back 1 (gs_3 rfl rfl (gf_i hS.1 qa_3 qi_3_7 rfl)) H
    have H : Ev none e 38 (if (zI M 3 7) = 40 then 26 else 20) [some (.ref 3), some (.int dz), some (.int a), none] [] M v M' 0 0 := Ev.back 2 (fun n => rfl) H
    by_cases h9 : (zI M 3 7) = 40
    · rw [if_pos h9] at H
      have H : Ev none e 38 27 [some (.ref 3), some (.int dz), some (.int a), none] [.ref 3] M v M' 0 0 := Ev.back 1 (fun n => rfl) H
      have H : Ev none e 38 30 [some (.ref 3), some (.int dz), some (.int a), none] [.int (zI M 3 11)] M v M' 0 0 := Ev.back 1 (gs_3 rfl rfl (gf_i hS.1 qa_3 qi_3_11 rfl)) H
      have H : Ev none e 38 (if 40 ≤ (zI M 3 11) then 41 else 35) [some (.ref 3), some (.int dz), some (.int a), none] [] M v M' 0 0 := Ev.back 2 (fun n => rfl) H
      by_cases h10 : 40 ≤ (zI M 3 11)
      · rw [if_pos h10] at H
        have H : Ev none e 38 43 [some (.ref 3), some (.int dz), some (.int a), none] [.int 4, .ref 3] M v M' 0 0 := Ev.back 2 (fun n => rfl) H
        obtain ⟨e1, rfl⟩ := Ev.dpos rfl rfl H
        obtain ⟨vK11, MK11, K11, H⟩ := Ev.callb (fun n => gs_7 rfl rfl (show gCal (.invokevirtual 68) 3 (.int 4 :: .ref 3 :: []) M = some (.inr (27, [some (.ref 3), some (.int 4)], [])) from by show @cond (Option ((List Value × Mem) ⊕ (Nat × Lo × List Value))) (true && gRecv M (.ref 3) 3 && gRoom [] && true) (some (.inr (27, [some (.ref 3), some (.int 4)], []))) none = _; rw [recv_s hS.1 qa_3 qo_3]; rfl)) H
        have K11 : Ev none e1 27 0 [some (.ref 3), some (.int 4)] [] M vK11 MK11 0 0 := K11
        have HF := H
        exact Or.inr (Or.inr (Or.inr (Or.inl ⟨h1, h9, h10, ⟨e1, vK11, MK11, rfl, K11, HF⟩⟩)))
      · rw [if_neg h10] at H
        have H : Ev none e 38 (if dz ≤ 10 then 47 else 41) [some (.ref 3), some (.int dz), some (.int a), none] [] M v M' 0 0 := Ev.back 3 (fun n => rfl) H
        by_cases h12 : dz ≤ 10
        · rw [if_pos h12] at H
          have H : Ev none e 38 49 [some (.ref 3), some (.int dz), some (.int a), none] [.ref 3, .ref 3] M v M' 0 0 := Ev.back 2 (fun n => rfl) H
          have H : Ev none e 38 52 [some (.ref 3), some (.int dz), some (.int a), none] [.int (zI M 3 11), .ref 3] M v M' 0 0 := Ev.back 1 (gs_3 rfl rfl (gf_i hS.1 qa_3 qi_3_11 rfl)) H
          have H : Ev none e 38 54 [some (.ref 3), some (.int dz), some (.int a), none] [.int ((zI M 3 11) + 1), .ref 3] M v M' 0 0 := Ev.back 2 (fun n => rfl) H
          obtain ⟨N14, eN14⟩ : ∃ N, N = (wF M 3 11 ((zI M 3 11) + 1)) := ⟨_, rfl⟩
          have hN14 : SQ N14 := by rw [eN14]; exact hS.kf
          have H : Ev none e 38 57 [some (.ref 3), some (.int dz), some (.int a), none] [] N14 v M' 0 0 := by rw [eN14]; exact Ev.pfi rfl rfl rfl hS.1 qa_3 qi_3_11 H
          have H : Ev none e 38 58 [some (.ref 3), some (.int dz), some (.int a), none] [.ref 3] N14 v M' 0 0 := Ev.back 1 (fun n => rfl) H
          obtain ⟨e1, rfl⟩ := Ev.dpos rfl rfl H
          obtain ⟨vK15, MK15, K15, H⟩ := Ev.callb (fun n => gs_7 rfl rfl (show gCal (.invokevirtual 140) 3 (.ref 3 :: []) N14 = some (.inr (31, [some (.ref 3)], [])) from by show @cond (Option ((List Value × Mem) ⊕ (Nat × Lo × List Value))) (true && gRecv N14 (.ref 3) 3 && gRoom [] && true) (some (.inr (31, [some (.ref 3)], []))) none = _; rw [recv_s hN14.1 qa_3 qo_3]; rfl)) H
          have K15 : Ev none e1 31 0 [some (.ref 3)] [] N14 vK15 MK15 0 0 := K15
          have HF := H
          subst eN14
          exact Or.inr (Or.inr (Or.inr (Or.inr (Or.inl ⟨h1, h9, h10, h12, ⟨e1, vK15, MK15, rfl, K15, HF⟩⟩))))
        · rw [if_neg h12] at H
          have H : Ev none e 38 43 [some (.ref 3), some (.int dz), some (.int a), none] [.int 4, .ref 3] M v M' 0 0 := Ev.back 2 (fun n => rfl) H
          obtain ⟨e1, rfl⟩ := Ev.dpos rfl rfl H
          obtain ⟨vK16, MK16, K16, H⟩ := Ev.callb (fun n => gs_7 rfl rfl (show gCal (.invokevirtual 68) 3 (.int 4 :: .ref 3 :: []) M = some (.inr (27, [some (.ref 3), some (.int 4)], [])) from by show @cond (Option ((List Value × Mem) ⊕ (Nat × Lo × List Value))) (true && gRecv M (.ref 3) 3 && gRoom [] && true) (some (.inr (27, [some (.ref 3), some (.int 4)], []))) none = _; rw [recv_s hS.1 qa_3 qo_3]; rfl)) H
          have K16 : Ev none e1 27 0 [some (.ref 3), some (.int 4)] [] M vK16 MK16 0 0 := K16
          have HF := H
          exact Or.inr (Or.inr (Or.inr (Or.inr (Or.inr (Or.inl ⟨h1, h9, h10, h12, ⟨e1, vK16, MK16, rfl, K16, HF⟩⟩)))))
    · rw [if_neg h9] at H
      have H : Ev none e 38 22 [some (.ref 3), some (.int dz), some (.int a), none] [.int 1, .ref 3] M v M' 0 0 := Ev.back 2 (fun n => rfl) H
      obtain ⟨e1, rfl⟩ := Ev.dpos rfl rfl H
      obtain ⟨vK17, MK17, K17, H⟩ := Ev.callb (fun n => gs_7 rfl rfl (show gCal (.invokevirtual 68) 3 (.int 1 :: .ref 3 :: []) M = some (.inr (27, [some (.ref 3), some (.int 1)], [])) from by show @cond (Option ((List Value × Mem) ⊕ (Nat × Lo × List Value))) (true && gRecv M (.ref 3) 3 && gRoom [] && true) (some (.inr (27, [some (.ref 3), some (.int 1)], []))) none = _; rw [recv_s hS.1 qa_3 qo_3]; rfl)) H
      have K17 : Ev none e1 27 0 [some (.ref 3), some (.int 1)] [] M vK17 MK17 0 0 := K17
      have HF := H
      exact Or.inr (Or.inr (Or.inr (Or.inr (Or.inr (Or.inr (⟨h1, h9, ⟨e1, vK17, MK17, rfl, K17, HF⟩⟩))))))
theorem onq_25 {e : Nat} {M M' : Mem} {v : Option Value} {dz a y : Int32} (hS : SQ M) (H : Ev none e 38 25 [some (.ref 3), some (.int dz), some (.int a), none] [.int y] M v M' 0 0) : v = some (.int y) ∧ M' = M := by
  obtain ⟨z1, z2⟩ := Ev.retz rfl rfl H
  exact ⟨z1, z2⟩
theorem onq_46 {e : Nat} {M M' : Mem} {v : Option Value} {dz a y : Int32} (hS : SQ M) (H : Ev none e 38 46 [some (.ref 3), some (.int dz), some (.int a), none] [.int y] M v M' 0 0) : v = some (.int y) ∧ M' = M := by
  obtain ⟨z1, z2⟩ := Ev.retz rfl rfl H
  exact ⟨z1, z2⟩
theorem onq_61 {e : Nat} {M M' : Mem} {v : Option Value} {dz a : Int32} (hS : SQ M) (H : Ev none e 38 61 [some (.ref 3), some (.int dz), some (.int a), none] [] M v M' 0 0) : (0 ≤ a ∧ (sI 3 a) = 8 ∧ (∃ e1 v1 M1, e = e1 + 1 ∧ Ev none e1 38 0 [some (.ref 3), some (.int (dz + 1)), none, none] [] M v1 M1 0 0 ∧ Ev none e 38 117 [some (.ref 3), some (.int dz), some (.int a), some (.int (sI 3 a))] (v1.toList ++ []) M1 v M' 0 0)) ∨ (0 ≤ a ∧ ¬ ((sI 3 a) = 8) ∧ (sI 3 a) < 4 ∧ (∃ e1 v1 M1, e = e1 + 1 ∧ Ev none e1 40 0 [some (.ref 3), some (.int (sI 3 a)), some (.int (sI 4 a)), some (.int (sI 4 a))] [] M v1 M1 0 0 ∧ Ev none e 38 158 [some (.ref 3), some (.int dz), some (.int a), some (.int (sI 3 a))] (v1.toList ++ []) M1 v M' 0 0)) ∨ (0 ≤ a ∧ ¬ ((sI 3 a) = 8) ∧ ¬ ((sI 3 a) < 4) ∧ (∃ e1 v1 M1, e = e1 + 1 ∧ Ev none e1 39 0 [some (.ref 3), some (.int (sI 3 a)), none, none] [] M v1 M1 0 0 ∧ Ev none e 38 142 [some (.ref 3), some (.int dz), some (.int a), some (.int (sI 3 a))] (v1.toList ++ []) M1 v M' 0 0)) ∨ (¬ (0 ≤ a) ∧ (∃ e1 v1 M1, e = e1 + 1 ∧ Ev none e1 36 0 [some (.ref 3), some (.int (dz + 1)), none] [] M v1 M1 0 0 ∧ Ev none e 38 72 [some (.ref 3), some (.int dz), some (.int a), none] (v1.toList ++ []) M1 v M' 0 0)) := by
  have H : Ev none e 38 (if 0 ≤ a then 98 else 65) [some (.ref 3), some (.int dz), some (.int a), none] [] M v M' 0 0 := Ev.back 2 (fun n => rfl) H
  by_cases h1 : 0 ≤ a
  · rw [if_pos h1] at H
    have H : Ev none e 38 102 [some (.ref 3), some (.int dz), some (.int a), none] [.int a, .retAddr 3] M v M' 0 0 := Ev.back 2 (fun n => rfl) H
    have H : Ev none e 38 103 [some (.ref 3), some (.int dz), some (.int a), none] [.int (sI 3 a)] M v M' 0 0 := Ev.sal rfl rfl H
    have H : Ev none e 38 (if (sI 3 a) = 8 then 110 else 132) [some (.ref 3), some (.int dz), some (.int a), some (.int (sI 3 a))] [] M v M' 0 0 := Ev.back 4 (fun n => rfl) H
    by_cases h2 : (sI 3 a) = 8
    · rw [if_pos h2] at H
      have H : Ev none e 38 114 [some (.ref 3), some (.int dz), some (.int a), some (.int (sI 3 a))] [.int (dz + 1), .ref 3] M v M' 0 0 := Ev.back 4 (fun n => rfl) H
      obtain ⟨e1, rfl⟩ := Ev.dpos rfl rfl H
      obtain ⟨vK3, MK3, K3, H⟩ := Ev.callb (fun n => gs_7 rfl rfl (show gCal (.invokevirtual 177) 3 (.int (dz + 1) :: .ref 3 :: []) M = some (.inr (38, [some (.ref 3), some (.int (dz + 1)), none, none], [])) from by show @cond (Option ((List Value × Mem) ⊕ (Nat × Lo × List Value))) (true && gRecv M (.ref 3) 3 && gRoom [] && true) (some (.inr (38, [some (.ref 3), some (.int (dz + 1)), none, none], []))) none = _; rw [recv_s hS.1 qa_3 qo_3]; rfl)) H
      have K3 : Ev none e1 38 0 [some (.ref 3), some (.int (dz + 1)), none, none] [] M vK3 MK3 0 0 := K3
      have HF := H
      exact Or.inl ⟨h1, h2, ⟨e1, vK3, MK3, rfl, K3, HF⟩⟩
    · rw [if_neg h2] at H
      have H : Ev none e 38 (if (sI 3 a) < 4 then 143 else 137) [some (.ref 3), some (.int dz), some (.int a), some (.int (sI 3 a))] [] M v M' 0 0 := Ev.back 3 (fun n => rfl) H
      by_cases h4 : (sI 3 a) < 4
      · rw [if_pos h4] at H
        have H : Ev none e 38 149 [some (.ref 3), some (.int dz), some (.int a), some (.int (sI 3 a))] [.int a, .retAddr 4, .int (sI 3 a), .ref 3] M v M' 0 0 := Ev.back 4 (fun n => rfl) H
        have H : Ev none e 38 150 [some (.ref 3), some (.int dz), some (.int a), some (.int (sI 3 a))] [.int (sI 4 a), .int (sI 3 a), .ref 3] M v M' 0 0 := Ev.sal rfl rfl H
        have H : Ev none e 38 154 [some (.ref 3), some (.int dz), some (.int a), some (.int (sI 3 a))] [.int a, .retAddr 4, .int (sI 4 a), .int (sI 3 a), .ref 3] M v M' 0 0 := Ev.back 2 (fun n => rfl) H
        have H : Ev none e 38 155 [some (.ref 3), some (.int dz), some (.int a), some (.int (sI 3 a))] [.int (sI 4 a), .int (sI 4 a), .int (sI 3 a), .ref 3] M v M' 0 0 := Ev.sal rfl rfl H
        obtain ⟨e1, rfl⟩ := Ev.dpos rfl rfl H
        obtain ⟨vK5, MK5, K5, H⟩ := Ev.callb (fun n => gs_7 rfl rfl (show gCal (.invokevirtual 173) 3 (.int (sI 4 a) :: .int (sI 4 a) :: .int (sI 3 a) :: .ref 3 :: []) M = some (.inr (40, [some (.ref 3), some (.int (sI 3 a)), some (.int (sI 4 a)), some (.int (sI 4 a))], [])) from by show @cond (Option ((List Value × Mem) ⊕ (Nat × Lo × List Value))) (true && gRecv M (.ref 3) 3 && gRoom [] && true) (some (.inr (40, [some (.ref 3), some (.int (sI 3 a)), some (.int (sI 4 a)), some (.int (sI 4 a))], []))) none = _; rw [recv_s hS.1 qa_3 qo_3]; rfl)) H
        have K5 : Ev none e1 40 0 [some (.ref 3), some (.int (sI 3 a)), some (.int (sI 4 a)), some (.int (sI 4 a))] [] M vK5 MK5 0 0 := K5
        have HF := H
        exact Or.inr (Or.inl ⟨h1, h2, h4, ⟨e1, vK5, MK5, rfl, K5, HF⟩⟩)
      · rw [if_neg h4] at H
        have H : Ev none e 38 139 [some (.ref 3), some (.int dz), some (.int a), some (.int (sI 3 a))] [.int (sI 3 a), .ref 3] M v M' 0 0 := Ev.back 2 (fun n => rfl) H
        obtain ⟨e1, rfl⟩ := Ev.dpos rfl rfl H
        obtain ⟨vK6, MK6, K6, H⟩ := Ev.callb (fun n => gs_7 rfl rfl (show gCal (.invokevirtual 187) 3 (.int (sI 3 a) :: .ref 3 :: []) M = some (.inr (39, [some (.ref 3), some (.int (sI 3 a)), none, none], [])) from by show @cond (Option ((List Value × Mem) ⊕ (Nat × Lo × List Value))) (true && gRecv M (.ref 3) 3 && gRoom [] && true) (some (.inr (39, [some (.ref 3), some (.int (sI 3 a)), none, none], []))) none = _; rw [recv_s hS.1 qa_3 qo_3]; rfl)) H
        have K6 : Ev none e1 39 0 [some (.ref 3), some (.int (sI 3 a)), none, none] [] M vK6 MK6 0 0 := K6
        have HF := H
        exact Or.inr (Or.inr (Or.inl ⟨h1, h2, h4, ⟨e1, vK6, MK6, rfl, K6, HF⟩⟩))
  · rw [if_neg h1] at H
    have H : Ev none e 38 69 [some (.ref 3), some (.int dz), some (.int a), none] [.int (dz + 1), .ref 3] M v M' 0 0 := Ev.back 4 (fun n => rfl) H
    obtain ⟨e1, rfl⟩ := Ev.dpos rfl rfl H
    obtain ⟨vK7, MK7, K7, H⟩ := Ev.callb (fun n => gs_7 rfl rfl (show gCal (.invokevirtual 152) 3 (.int (dz + 1) :: .ref 3 :: []) M = some (.inr (36, [some (.ref 3), some (.int (dz + 1)), none], [])) from by show @cond (Option ((List Value × Mem) ⊕ (Nat × Lo × List Value))) (true && gRecv M (.ref 3) 3 && gRoom [] && true) (some (.inr (36, [some (.ref 3), some (.int (dz + 1)), none], []))) none = _; rw [recv_s hS.1 qa_3 qo_3]; rfl)) H
    have K7 : Ev none e1 36 0 [some (.ref 3), some (.int (dz + 1)), none] [] M vK7 MK7 0 0 := K7
    have HF := H
    exact Or.inr (Or.inr (Or.inr (⟨h1, ⟨e1, vK7, MK7, rfl, K7, HF⟩⟩)))
theorem onq_72 {e : Nat} {M M' : Mem} {v : Option Value} {dz a y : Int32} (hS : SQ M) (H : Ev none e 38 72 [some (.ref 3), some (.int dz), some (.int a), none] [.int y] M v M' 0 0) : (y = 0 ∧ v = some (.int 0) ∧ M' = M) ∨ (¬ (y = 0) ∧ (zI M 3 7) = 41 ∧ (∃ e1 v1 M1, e = e1 + 1 ∧ Ev none e1 31 0 [some (.ref 3)] [] M v1 M1 0 0 ∧ Ev none e 38 96 [some (.ref 3), some (.int dz), some (.int a), none] (v1.toList ++ []) M1 v M' 0 0)) ∨ (¬ (y = 0) ∧ ¬ ((zI M 3 7) = 41) ∧ (∃ e1 v1 M1, e = e1 + 1 ∧ Ev none e1 27 0 [some (.ref 3), some (.int 1)] [] M v1 M1 0 0 ∧ Ev none e 38 91 [some (.ref 3), some (.int dz), some (.int a), none] (v1.toList ++ []) M1 v M' 0 0)) := by
  have H : Ev none e 38 (if y = 0 then 75 else 77) [some (.ref 3), some (.int dz), some (.int a), none] [] M v M' 0 0 := Ev.back 1 (fun n => rfl) H
  by_cases h1 : y = 0
  · rw [if_pos h1] at H
    have H : Ev none e 38 76 [some (.ref 3), some (.int dz), some (.int a), none] [.int 0] M v M' 0 0 := Ev.back 1 (fun n => rfl) H
    obtain ⟨z1, z2⟩ := Ev.retz rfl rfl H
    exact Or.inl ⟨h1, z1, z2⟩
  · rw [if_neg h1] at H
    have H : Ev none e 38 78 [some (.ref 3), some (.int dz), some (.int a), none] [.ref 3] M v M' 0 0 := Ev.back 1 (fun n => rfl) H
    have H : Ev none e 38 81 [some (.ref 3), some (.int dz), some (.int a), none] [.int (zI M 3 7)] M v M' 0 0 := Ev.back 1 (gs_3 rfl rfl (gf_i hS.1 qa_3 qi_3_7 rfl)) H
    have H : Ev none e 38 (if (zI M 3 7) = 41 then 92 else 86) [some (.ref 3), some (.int dz), some (.int a), none] [] M v M' 0 0 := Ev.back 2 (fun n => rfl) H
    by_cases h2 : (zI M 3 7) = 41
    · rw [if_pos h2] at H
      have H : Ev none e 38 93 [some (.ref 3), some (.int dz), some (.int a), none] [.ref 3] M v M' 0 0 := Ev.back 1 (fun n => rfl) H
      obtain ⟨e1, rfl⟩ := Ev.dpos rfl rfl H
      obtain ⟨vK3, MK3, K3, H⟩ := Ev.callb (fun n => gs_7 rfl rfl (show gCal (.invokevirtual 140) 3 (.ref 3 :: []) M = some (.inr (31, [some (.ref 3)], [])) from by show @cond (Option ((List Value × Mem) ⊕ (Nat × Lo × List Value))) (true && gRecv M (.ref 3) 3 && gRoom [] && true) (some (.inr (31, [some (.ref 3)], []))) none = _; rw [recv_s hS.1 qa_3 qo_3]; rfl)) H
      have K3 : Ev none e1 31 0 [some (.ref 3)] [] M vK3 MK3 0 0 := K3
      have HF := H
      exact Or.inr (Or.inl ⟨h1, h2, ⟨e1, vK3, MK3, rfl, K3, HF⟩⟩)
    · rw [if_neg h2] at H
      have H : Ev none e 38 88 [some (.ref 3), some (.int dz), some (.int a), none] [.int 1, .ref 3] M v M' 0 0 := Ev.back 2 (fun n => rfl) H
      obtain ⟨e1, rfl⟩ := Ev.dpos rfl rfl H
      obtain ⟨vK4, MK4, K4, H⟩ := Ev.callb (fun n => gs_7 rfl rfl (show gCal (.invokevirtual 68) 3 (.int 1 :: .ref 3 :: []) M = some (.inr (27, [some (.ref 3), some (.int 1)], [])) from by show @cond (Option ((List Value × Mem) ⊕ (Nat × Lo × List Value))) (true && gRecv M (.ref 3) 3 && gRoom [] && true) (some (.inr (27, [some (.ref 3), some (.int 1)], []))) none = _; rw [recv_s hS.1 qa_3 qo_3]; rfl)) H
      have K4 : Ev none e1 27 0 [some (.ref 3), some (.int 1)] [] M vK4 MK4 0 0 := K4
      have HF := H
      exact Or.inr (Or.inr (⟨h1, h2, ⟨e1, vK4, MK4, rfl, K4, HF⟩⟩))
theorem onq_91 {e : Nat} {M M' : Mem} {v : Option Value} {dz a y : Int32} (hS : SQ M) (H : Ev none e 38 91 [some (.ref 3), some (.int dz), some (.int a), none] [.int y] M v M' 0 0) : v = some (.int y) ∧ M' = M := by
  obtain ⟨z1, z2⟩ := Ev.retz rfl rfl H
  exact ⟨z1, z2⟩
theorem onq_96 {e : Nat} {M M' : Mem} {v : Option Value} {dz a : Int32} (hS : SQ M) (H : Ev none e 38 96 [some (.ref 3), some (.int dz), some (.int a), none] [] M v M' 0 0) : v = some (.int 1) ∧ M' = M := by
  have H : Ev none e 38 97 [some (.ref 3), some (.int dz), some (.int a), none] [.int 1] M v M' 0 0 := Ev.back 1 (fun n => rfl) H
  obtain ⟨z1, z2⟩ := Ev.retz rfl rfl H
  exact ⟨z1, z2⟩
theorem onq_117 {e : Nat} {M M' : Mem} {v : Option Value} {dz a ak y : Int32} (hS : SQ M) (H : Ev none e 38 117 [some (.ref 3), some (.int dz), some (.int a), some (.int ak)] [.int y] M v M' 0 0) : (y = 0 ∧ v = some (.int 0) ∧ M' = M) ∨ (¬ (y = 0) ∧ (∃ e1 v1 M1, e = e1 + 1 ∧ Ev none e1 40 0 [some (.ref 3), some (.int 8), some (.int 0), some (.int 0)] [] M v1 M1 0 0 ∧ Ev none e 38 130 [some (.ref 3), some (.int dz), some (.int a), some (.int ak)] (v1.toList ++ []) M1 v M' 0 0)) := by
  have H : Ev none e 38 (if y = 0 then 120 else 122) [some (.ref 3), some (.int dz), some (.int a), some (.int ak)] [] M v M' 0 0 := Ev.back 1 (fun n => rfl) H
  by_cases h1 : y = 0
  · rw [if_pos h1] at H
    have H : Ev none e 38 121 [some (.ref 3), some (.int dz), some (.int a), some (.int ak)] [.int 0] M v M' 0 0 := Ev.back 1 (fun n => rfl) H
    obtain ⟨z1, z2⟩ := Ev.retz rfl rfl H
    exact Or.inl ⟨h1, z1, z2⟩
  · rw [if_neg h1] at H
    have H : Ev none e 38 127 [some (.ref 3), some (.int dz), some (.int a), some (.int ak)] [.int 0, .int 0, .int 8, .ref 3] M v M' 0 0 := Ev.back 4 (fun n => rfl) H
    obtain ⟨e1, rfl⟩ := Ev.dpos rfl rfl H
    obtain ⟨vK2, MK2, K2, H⟩ := Ev.callb (fun n => gs_7 rfl rfl (show gCal (.invokevirtual 173) 3 (.int 0 :: .int 0 :: .int 8 :: .ref 3 :: []) M = some (.inr (40, [some (.ref 3), some (.int 8), some (.int 0), some (.int 0)], [])) from by show @cond (Option ((List Value × Mem) ⊕ (Nat × Lo × List Value))) (true && gRecv M (.ref 3) 3 && gRoom [] && true) (some (.inr (40, [some (.ref 3), some (.int 8), some (.int 0), some (.int 0)], []))) none = _; rw [recv_s hS.1 qa_3 qo_3]; rfl)) H
    have K2 : Ev none e1 40 0 [some (.ref 3), some (.int 8), some (.int 0), some (.int 0)] [] M vK2 MK2 0 0 := K2
    have HF := H
    exact Or.inr (⟨h1, ⟨e1, vK2, MK2, rfl, K2, HF⟩⟩)
theorem onq_130 {e : Nat} {M M' : Mem} {v : Option Value} {dz a ak : Int32} (hS : SQ M) (H : Ev none e 38 130 [some (.ref 3), some (.int dz), some (.int a), some (.int ak)] [] M v M' 0 0) : v = some (.int 1) ∧ M' = M := by
  have H : Ev none e 38 131 [some (.ref 3), some (.int dz), some (.int a), some (.int ak)] [.int 1] M v M' 0 0 := Ev.back 1 (fun n => rfl) H
  obtain ⟨z1, z2⟩ := Ev.retz rfl rfl H
  exact ⟨z1, z2⟩
theorem onq_142 {e : Nat} {M M' : Mem} {v : Option Value} {dz a ak y : Int32} (hS : SQ M) (H : Ev none e 38 142 [some (.ref 3), some (.int dz), some (.int a), some (.int ak)] [.int y] M v M' 0 0) : v = some (.int y) ∧ M' = M := by
  obtain ⟨z1, z2⟩ := Ev.retz rfl rfl H
  exact ⟨z1, z2⟩
theorem onq_158 {e : Nat} {M M' : Mem} {v : Option Value} {dz a ak : Int32} (hS : SQ M) (H : Ev none e 38 158 [some (.ref 3), some (.int dz), some (.int a), some (.int ak)] [] M v M' 0 0) : v = some (.int 1) ∧ M' = M := by
  have H : Ev none e 38 159 [some (.ref 3), some (.int dz), some (.int a), some (.int ak)] [.int 1] M v M' 0 0 := Ev.back 1 (fun n => rfl) H
  obtain ⟨z1, z2⟩ := Ev.retz rfl rfl H
  exact ⟨z1, z2⟩
theorem al_0 {e : Nat} {M M' : Mem} {v : Option Value} {dz : Int32} (hS : SQ M) (H : Ev none e 37 0 [some (.ref 3), some (.int dz), none] [] M v M' 0 0) : (∃ e1 v1 M1, e = e1 + 1 ∧ Ev none e1 38 0 [some (.ref 3), some (.int dz), none, none] [] M v1 M1 0 0 ∧ Ev none e 37 5 [some (.ref 3), some (.int dz), none] (v1.toList ++ []) M1 v M' 0 0) := by
  have H : Ev none e 37 2 [some (.ref 3), some (.int dz), none] [.int dz, .ref 3] M v M' 0 0 := Ev.back 2 (fun n => rfl) H
  obtain ⟨e1, rfl⟩ := Ev.dpos rfl rfl H
  obtain ⟨vK1, MK1, K1, H⟩ := Ev.callb (fun n => gs_7 rfl rfl (show gCal (.invokevirtual 177) 3 (.int dz :: .ref 3 :: []) M = some (.inr (38, [some (.ref 3), some (.int dz), none, none], [])) from by show @cond (Option ((List Value × Mem) ⊕ (Nat × Lo × List Value))) (true && gRecv M (.ref 3) 3 && gRoom [] && true) (some (.inr (38, [some (.ref 3), some (.int dz), none, none], []))) none = _; rw [recv_s hS.1 qa_3 qo_3]; rfl)) H
  have K1 : Ev none e1 38 0 [some (.ref 3), some (.int dz), none, none] [] M vK1 MK1 0 0 := K1
  have HF := H
  exact ⟨e1, vK1, MK1, rfl, K1, HF⟩
theorem al_5 {e : Nat} {M M' : Mem} {v : Option Value} {dz y : Int32} (hS : SQ M) (H : Ev none e 37 5 [some (.ref 3), some (.int dz), none] [.int y] M v M' 0 0) : (y = 0 ∧ v = some (.int 0) ∧ M' = M) ∨ (¬ (y = 0) ∧ Ev none e 37 12 [some (.ref 3), some (.int dz), some (.int 0)] [] M v M' 0 0) := by
  have H : Ev none e 37 (if y = 0 then 8 else 10) [some (.ref 3), some (.int dz), none] [] M v M' 0 0 := Ev.back 1 (fun n => rfl) H
  by_cases h1 : y = 0
  · rw [if_pos h1] at H
    have H : Ev none e 37 9 [some (.ref 3), some (.int dz), none] [.int 0] M v M' 0 0 := Ev.back 1 (fun n => rfl) H
    obtain ⟨z1, z2⟩ := Ev.retz rfl rfl H
    exact Or.inl ⟨h1, z1, z2⟩
  · rw [if_neg h1] at H
    have H : Ev none e 37 12 [some (.ref 3), some (.int dz), some (.int 0)] [] M v M' 0 0 := Ev.back 2 (fun n => rfl) H
    have HF := H
    exact Or.inr (⟨h1, HF⟩)
theorem al_12 {e : Nat} {M M' : Mem} {v : Option Value} {dz nn : Int32} (hS : SQ M) (H : Ev none e 37 12 [some (.ref 3), some (.int dz), some (.int nn)] [] M v M' 0 0) : (40 ≤ nn ∧ v = some (.int 1) ∧ M' = M) ∨ (¬ (40 ≤ nn) ∧ (∃ e1 v1 M1, e = e1 + 1 ∧ Ev none e1 32 0 [some (.ref 3), some (.retAddr 15), none, none, none, none, none, none] [] M v1 M1 0 0 ∧ Ev none e 37 24 [some (.ref 3), some (.int dz), some (.int nn)] (v1.toList ++ []) M1 v M' 0 0)) := by
  have H : Ev none e 37 (if 40 ≤ nn then 55 else 18) [some (.ref 3), some (.int dz), some (.int nn)] [] M v M' 0 0 := Ev.back 3 (fun n => rfl) H
  by_cases h1 : 40 ≤ nn
  · rw [if_pos h1] at H
    have H : Ev none e 37 56 [some (.ref 3), some (.int dz), some (.int nn)] [.int 1] M v M' 0 0 := Ev.back 1 (fun n => rfl) H
    obtain ⟨z1, z2⟩ := Ev.retz rfl rfl H
    exact Or.inl ⟨h1, z1, z2⟩
  · rw [if_neg h1] at H
    have H : Ev none e 37 21 [some (.ref 3), some (.int dz), some (.int nn)] [.retAddr 15, .ref 3] M v M' 0 0 := Ev.back 2 (fun n => rfl) H
    obtain ⟨e1, rfl⟩ := Ev.dpos rfl rfl H
    obtain ⟨vK2, MK2, K2, H⟩ := Ev.callb (fun n => gs_7 rfl rfl (show gCal (.invokevirtual 115) 3 (.retAddr 15 :: .ref 3 :: []) M = some (.inr (32, [some (.ref 3), some (.retAddr 15), none, none, none, none, none, none], [])) from by show @cond (Option ((List Value × Mem) ⊕ (Nat × Lo × List Value))) (true && gRecv M (.ref 3) 3 && gRoom [] && true) (some (.inr (32, [some (.ref 3), some (.retAddr 15), none, none, none, none, none, none], []))) none = _; rw [recv_s hS.1 qa_3 qo_3]; rfl)) H
    have K2 : Ev none e1 32 0 [some (.ref 3), some (.retAddr 15), none, none, none, none, none, none] [] M vK2 MK2 0 0 := K2
    have HF := H
    exact Or.inr (⟨h1, ⟨e1, vK2, MK2, rfl, K2, HF⟩⟩)
theorem al_24 {e : Nat} {M M' : Mem} {v : Option Value} {dz nn y : Int32} (hS : SQ M) (H : Ev none e 37 24 [some (.ref 3), some (.int dz), some (.int nn)] [.int y] M v M' 0 0) : (y = 0 ∧ (∃ e1 v1 M1, e = e1 + 1 ∧ Ev none e1 31 0 [some (.ref 3)] [] M v1 M1 0 0 ∧ Ev none e 37 31 [some (.ref 3), some (.int dz), some (.int nn)] (v1.toList ++ []) M1 v M' 0 0)) ∨ (¬ (y = 0) ∧ v = some (.int 1) ∧ M' = M) := by
  have H : Ev none e 37 (if y = 0 then 27 else 55) [some (.ref 3), some (.int dz), some (.int nn)] [] M v M' 0 0 := Ev.back 1 (fun n => rfl) H
  by_cases h1 : y = 0
  · rw [if_pos h1] at H
    have H : Ev none e 37 28 [some (.ref 3), some (.int dz), some (.int nn)] [.ref 3] M v M' 0 0 := Ev.back 1 (fun n => rfl) H
    obtain ⟨e1, rfl⟩ := Ev.dpos rfl rfl H
    obtain ⟨vK2, MK2, K2, H⟩ := Ev.callb (fun n => gs_7 rfl rfl (show gCal (.invokevirtual 140) 3 (.ref 3 :: []) M = some (.inr (31, [some (.ref 3)], [])) from by show @cond (Option ((List Value × Mem) ⊕ (Nat × Lo × List Value))) (true && gRecv M (.ref 3) 3 && gRoom [] && true) (some (.inr (31, [some (.ref 3)], []))) none = _; rw [recv_s hS.1 qa_3 qo_3]; rfl)) H
    have K2 : Ev none e1 31 0 [some (.ref 3)] [] M vK2 MK2 0 0 := K2
    have HF := H
    exact Or.inl ⟨h1, ⟨e1, vK2, MK2, rfl, K2, HF⟩⟩
  · rw [if_neg h1] at H
    have H : Ev none e 37 56 [some (.ref 3), some (.int dz), some (.int nn)] [.int 1] M v M' 0 0 := Ev.back 1 (fun n => rfl) H
    obtain ⟨z1, z2⟩ := Ev.retz rfl rfl H
    exact Or.inr (⟨h1, z1, z2⟩)
theorem al_31 {e : Nat} {M M' : Mem} {v : Option Value} {dz nn : Int32} (hS : SQ M) (H : Ev none e 37 31 [some (.ref 3), some (.int dz), some (.int nn)] [] M v M' 0 0) : (∃ e1 v1 M1, e = e1 + 1 ∧ Ev none e1 38 0 [some (.ref 3), some (.int dz), none, none] [] M v1 M1 0 0 ∧ Ev none e 37 36 [some (.ref 3), some (.int dz), some (.int nn)] (v1.toList ++ []) M1 v M' 0 0) := by
  have H : Ev none e 37 33 [some (.ref 3), some (.int dz), some (.int nn)] [.int dz, .ref 3] M v M' 0 0 := Ev.back 2 (fun n => rfl) H
  obtain ⟨e1, rfl⟩ := Ev.dpos rfl rfl H
  obtain ⟨vK1, MK1, K1, H⟩ := Ev.callb (fun n => gs_7 rfl rfl (show gCal (.invokevirtual 177) 3 (.int dz :: .ref 3 :: []) M = some (.inr (38, [some (.ref 3), some (.int dz), none, none], [])) from by show @cond (Option ((List Value × Mem) ⊕ (Nat × Lo × List Value))) (true && gRecv M (.ref 3) 3 && gRoom [] && true) (some (.inr (38, [some (.ref 3), some (.int dz), none, none], []))) none = _; rw [recv_s hS.1 qa_3 qo_3]; rfl)) H
  have K1 : Ev none e1 38 0 [some (.ref 3), some (.int dz), none, none] [] M vK1 MK1 0 0 := K1
  have HF := H
  exact ⟨e1, vK1, MK1, rfl, K1, HF⟩
theorem al_36 {e : Nat} {M M' : Mem} {v : Option Value} {dz nn y : Int32} (hS : SQ M) (H : Ev none e 37 36 [some (.ref 3), some (.int dz), some (.int nn)] [.int y] M v M' 0 0) : (y = 0 ∧ v = some (.int 0) ∧ M' = M) ∨ (¬ (y = 0) ∧ (∃ e1 v1 M1, e = e1 + 1 ∧ Ev none e1 40 0 [some (.ref 3), some (.int 9), some (.int 0), some (.int 0)] [] M v1 M1 0 0 ∧ Ev none e 37 49 [some (.ref 3), some (.int dz), some (.int nn)] (v1.toList ++ []) M1 v M' 0 0)) := by
  have H : Ev none e 37 (if y = 0 then 39 else 41) [some (.ref 3), some (.int dz), some (.int nn)] [] M v M' 0 0 := Ev.back 1 (fun n => rfl) H
  by_cases h1 : y = 0
  · rw [if_pos h1] at H
    have H : Ev none e 37 40 [some (.ref 3), some (.int dz), some (.int nn)] [.int 0] M v M' 0 0 := Ev.back 1 (fun n => rfl) H
    obtain ⟨z1, z2⟩ := Ev.retz rfl rfl H
    exact Or.inl ⟨h1, z1, z2⟩
  · rw [if_neg h1] at H
    have H : Ev none e 37 46 [some (.ref 3), some (.int dz), some (.int nn)] [.int 0, .int 0, .int 9, .ref 3] M v M' 0 0 := Ev.back 4 (fun n => rfl) H
    obtain ⟨e1, rfl⟩ := Ev.dpos rfl rfl H
    obtain ⟨vK2, MK2, K2, H⟩ := Ev.callb (fun n => gs_7 rfl rfl (show gCal (.invokevirtual 173) 3 (.int 0 :: .int 0 :: .int 9 :: .ref 3 :: []) M = some (.inr (40, [some (.ref 3), some (.int 9), some (.int 0), some (.int 0)], [])) from by show @cond (Option ((List Value × Mem) ⊕ (Nat × Lo × List Value))) (true && gRecv M (.ref 3) 3 && gRoom [] && true) (some (.inr (40, [some (.ref 3), some (.int 9), some (.int 0), some (.int 0)], []))) none = _; rw [recv_s hS.1 qa_3 qo_3]; rfl)) H
    have K2 : Ev none e1 40 0 [some (.ref 3), some (.int 9), some (.int 0), some (.int 0)] [] M vK2 MK2 0 0 := K2
    have HF := H
    exact Or.inr (⟨h1, ⟨e1, vK2, MK2, rfl, K2, HF⟩⟩)
theorem al_49 {e : Nat} {M M' : Mem} {v : Option Value} {dz nn : Int32} (hS : SQ M) (H : Ev none e 37 49 [some (.ref 3), some (.int dz), some (.int nn)] [] M v M' 0 0) : Ev none e 37 12 [some (.ref 3), some (.int dz), some (.int (nn + 1))] [] M v M' 0 0 := by
  have H : Ev none e 37 12 [some (.ref 3), some (.int dz), some (.int (nn + 1))] [] M v M' 0 0 := Ev.back 2 (fun n => rfl) H
  have HF := H
  exact HF
theorem coq_0 {e : Nat} {M M' : Mem} {v : Option Value} {dz : Int32} (hS : SQ M) (H : Ev none e 36 0 [some (.ref 3), some (.int dz), none] [] M v M' 0 0) : (∃ e1 v1 M1, e = e1 + 1 ∧ Ev none e1 37 0 [some (.ref 3), some (.int dz), none] [] M v1 M1 0 0 ∧ Ev none e 36 5 [some (.ref 3), some (.int dz), none] (v1.toList ++ []) M1 v M' 0 0) := by
  have H : Ev none e 36 2 [some (.ref 3), some (.int dz), none] [.int dz, .ref 3] M v M' 0 0 := Ev.back 2 (fun n => rfl) H
  obtain ⟨e1, rfl⟩ := Ev.dpos rfl rfl H
  obtain ⟨vK1, MK1, K1, H⟩ := Ev.callb (fun n => gs_7 rfl rfl (show gCal (.invokevirtual 168) 3 (.int dz :: .ref 3 :: []) M = some (.inr (37, [some (.ref 3), some (.int dz), none], [])) from by show @cond (Option ((List Value × Mem) ⊕ (Nat × Lo × List Value))) (true && gRecv M (.ref 3) 3 && gRoom [] && true) (some (.inr (37, [some (.ref 3), some (.int dz), none], []))) none = _; rw [recv_s hS.1 qa_3 qo_3]; rfl)) H
  have K1 : Ev none e1 37 0 [some (.ref 3), some (.int dz), none] [] M vK1 MK1 0 0 := K1
  have HF := H
  exact ⟨e1, vK1, MK1, rfl, K1, HF⟩
theorem coq_5 {e : Nat} {M M' : Mem} {v : Option Value} {dz y : Int32} (hS : SQ M) (H : Ev none e 36 5 [some (.ref 3), some (.int dz), none] [.int y] M v M' 0 0) : (y = 0 ∧ v = some (.int 0) ∧ M' = M) ∨ (¬ (y = 0) ∧ Ev none e 36 12 [some (.ref 3), some (.int dz), some (.int 0)] [] M v M' 0 0) := by
  have H : Ev none e 36 (if y = 0 then 8 else 10) [some (.ref 3), some (.int dz), none] [] M v M' 0 0 := Ev.back 1 (fun n => rfl) H
  by_cases h1 : y = 0
  · rw [if_pos h1] at H
    have H : Ev none e 36 9 [some (.ref 3), some (.int dz), none] [.int 0] M v M' 0 0 := Ev.back 1 (fun n => rfl) H
    obtain ⟨z1, z2⟩ := Ev.retz rfl rfl H
    exact Or.inl ⟨h1, z1, z2⟩
  · rw [if_neg h1] at H
    have H : Ev none e 36 12 [some (.ref 3), some (.int dz), some (.int 0)] [] M v M' 0 0 := Ev.back 2 (fun n => rfl) H
    have HF := H
    exact Or.inr (⟨h1, HF⟩)
theorem coq_12 {e : Nat} {M M' : Mem} {v : Option Value} {dz nn : Int32} (hS : SQ M) (H : Ev none e 36 12 [some (.ref 3), some (.int dz), some (.int nn)] [] M v M' 0 0) : (40 ≤ nn ∧ v = some (.int 1) ∧ M' = M) ∨ (¬ (40 ≤ nn) ∧ (∃ e1 v1 M1, e = e1 + 1 ∧ Ev none e1 32 0 [some (.ref 3), some (.retAddr 14), none, none, none, none, none, none] [] M v1 M1 0 0 ∧ Ev none e 36 24 [some (.ref 3), some (.int dz), some (.int nn)] (v1.toList ++ []) M1 v M' 0 0)) := by
  have H : Ev none e 36 (if 40 ≤ nn then 55 else 18) [some (.ref 3), some (.int dz), some (.int nn)] [] M v M' 0 0 := Ev.back 3 (fun n => rfl) H
  by_cases h1 : 40 ≤ nn
  · rw [if_pos h1] at H
    have H : Ev none e 36 56 [some (.ref 3), some (.int dz), some (.int nn)] [.int 1] M v M' 0 0 := Ev.back 1 (fun n => rfl) H
    obtain ⟨z1, z2⟩ := Ev.retz rfl rfl H
    exact Or.inl ⟨h1, z1, z2⟩
  · rw [if_neg h1] at H
    have H : Ev none e 36 21 [some (.ref 3), some (.int dz), some (.int nn)] [.retAddr 14, .ref 3] M v M' 0 0 := Ev.back 2 (fun n => rfl) H
    obtain ⟨e1, rfl⟩ := Ev.dpos rfl rfl H
    obtain ⟨vK2, MK2, K2, H⟩ := Ev.callb (fun n => gs_7 rfl rfl (show gCal (.invokevirtual 115) 3 (.retAddr 14 :: .ref 3 :: []) M = some (.inr (32, [some (.ref 3), some (.retAddr 14), none, none, none, none, none, none], [])) from by show @cond (Option ((List Value × Mem) ⊕ (Nat × Lo × List Value))) (true && gRecv M (.ref 3) 3 && gRoom [] && true) (some (.inr (32, [some (.ref 3), some (.retAddr 14), none, none, none, none, none, none], []))) none = _; rw [recv_s hS.1 qa_3 qo_3]; rfl)) H
    have K2 : Ev none e1 32 0 [some (.ref 3), some (.retAddr 14), none, none, none, none, none, none] [] M vK2 MK2 0 0 := K2
    have HF := H
    exact Or.inr (⟨h1, ⟨e1, vK2, MK2, rfl, K2, HF⟩⟩)
theorem coq_24 {e : Nat} {M M' : Mem} {v : Option Value} {dz nn y : Int32} (hS : SQ M) (H : Ev none e 36 24 [some (.ref 3), some (.int dz), some (.int nn)] [.int y] M v M' 0 0) : (y = 0 ∧ (∃ e1 v1 M1, e = e1 + 1 ∧ Ev none e1 31 0 [some (.ref 3)] [] M v1 M1 0 0 ∧ Ev none e 36 31 [some (.ref 3), some (.int dz), some (.int nn)] (v1.toList ++ []) M1 v M' 0 0)) ∨ (¬ (y = 0) ∧ v = some (.int 1) ∧ M' = M) := by
  have H : Ev none e 36 (if y = 0 then 27 else 55) [some (.ref 3), some (.int dz), some (.int nn)] [] M v M' 0 0 := Ev.back 1 (fun n => rfl) H
  by_cases h1 : y = 0
  · rw [if_pos h1] at H
    have H : Ev none e 36 28 [some (.ref 3), some (.int dz), some (.int nn)] [.ref 3] M v M' 0 0 := Ev.back 1 (fun n => rfl) H
    obtain ⟨e1, rfl⟩ := Ev.dpos rfl rfl H
    obtain ⟨vK2, MK2, K2, H⟩ := Ev.callb (fun n => gs_7 rfl rfl (show gCal (.invokevirtual 140) 3 (.ref 3 :: []) M = some (.inr (31, [some (.ref 3)], [])) from by show @cond (Option ((List Value × Mem) ⊕ (Nat × Lo × List Value))) (true && gRecv M (.ref 3) 3 && gRoom [] && true) (some (.inr (31, [some (.ref 3)], []))) none = _; rw [recv_s hS.1 qa_3 qo_3]; rfl)) H
    have K2 : Ev none e1 31 0 [some (.ref 3)] [] M vK2 MK2 0 0 := K2
    have HF := H
    exact Or.inl ⟨h1, ⟨e1, vK2, MK2, rfl, K2, HF⟩⟩
  · rw [if_neg h1] at H
    have H : Ev none e 36 56 [some (.ref 3), some (.int dz), some (.int nn)] [.int 1] M v M' 0 0 := Ev.back 1 (fun n => rfl) H
    obtain ⟨z1, z2⟩ := Ev.retz rfl rfl H
    exact Or.inr (⟨h1, z1, z2⟩)
theorem coq_31 {e : Nat} {M M' : Mem} {v : Option Value} {dz nn : Int32} (hS : SQ M) (H : Ev none e 36 31 [some (.ref 3), some (.int dz), some (.int nn)] [] M v M' 0 0) : (∃ e1 v1 M1, e = e1 + 1 ∧ Ev none e1 37 0 [some (.ref 3), some (.int dz), none] [] M v1 M1 0 0 ∧ Ev none e 36 36 [some (.ref 3), some (.int dz), some (.int nn)] (v1.toList ++ []) M1 v M' 0 0) := by
  have H : Ev none e 36 33 [some (.ref 3), some (.int dz), some (.int nn)] [.int dz, .ref 3] M v M' 0 0 := Ev.back 2 (fun n => rfl) H
  obtain ⟨e1, rfl⟩ := Ev.dpos rfl rfl H
  obtain ⟨vK1, MK1, K1, H⟩ := Ev.callb (fun n => gs_7 rfl rfl (show gCal (.invokevirtual 168) 3 (.int dz :: .ref 3 :: []) M = some (.inr (37, [some (.ref 3), some (.int dz), none], [])) from by show @cond (Option ((List Value × Mem) ⊕ (Nat × Lo × List Value))) (true && gRecv M (.ref 3) 3 && gRoom [] && true) (some (.inr (37, [some (.ref 3), some (.int dz), none], []))) none = _; rw [recv_s hS.1 qa_3 qo_3]; rfl)) H
  have K1 : Ev none e1 37 0 [some (.ref 3), some (.int dz), none] [] M vK1 MK1 0 0 := K1
  have HF := H
  exact ⟨e1, vK1, MK1, rfl, K1, HF⟩
theorem coq_36 {e : Nat} {M M' : Mem} {v : Option Value} {dz nn y : Int32} (hS : SQ M) (H : Ev none e 36 36 [some (.ref 3), some (.int dz), some (.int nn)] [.int y] M v M' 0 0) : (y = 0 ∧ v = some (.int 0) ∧ M' = M) ∨ (¬ (y = 0) ∧ (∃ e1 v1 M1, e = e1 + 1 ∧ Ev none e1 40 0 [some (.ref 3), some (.int 10), some (.int 0), some (.int 0)] [] M v1 M1 0 0 ∧ Ev none e 36 49 [some (.ref 3), some (.int dz), some (.int nn)] (v1.toList ++ []) M1 v M' 0 0)) := by
  have H : Ev none e 36 (if y = 0 then 39 else 41) [some (.ref 3), some (.int dz), some (.int nn)] [] M v M' 0 0 := Ev.back 1 (fun n => rfl) H
  by_cases h1 : y = 0
  · rw [if_pos h1] at H
    have H : Ev none e 36 40 [some (.ref 3), some (.int dz), some (.int nn)] [.int 0] M v M' 0 0 := Ev.back 1 (fun n => rfl) H
    obtain ⟨z1, z2⟩ := Ev.retz rfl rfl H
    exact Or.inl ⟨h1, z1, z2⟩
  · rw [if_neg h1] at H
    have H : Ev none e 36 46 [some (.ref 3), some (.int dz), some (.int nn)] [.int 0, .int 0, .int 10, .ref 3] M v M' 0 0 := Ev.back 4 (fun n => rfl) H
    obtain ⟨e1, rfl⟩ := Ev.dpos rfl rfl H
    obtain ⟨vK2, MK2, K2, H⟩ := Ev.callb (fun n => gs_7 rfl rfl (show gCal (.invokevirtual 173) 3 (.int 0 :: .int 0 :: .int 10 :: .ref 3 :: []) M = some (.inr (40, [some (.ref 3), some (.int 10), some (.int 0), some (.int 0)], [])) from by show @cond (Option ((List Value × Mem) ⊕ (Nat × Lo × List Value))) (true && gRecv M (.ref 3) 3 && gRoom [] && true) (some (.inr (40, [some (.ref 3), some (.int 10), some (.int 0), some (.int 0)], []))) none = _; rw [recv_s hS.1 qa_3 qo_3]; rfl)) H
    have K2 : Ev none e1 40 0 [some (.ref 3), some (.int 10), some (.int 0), some (.int 0)] [] M vK2 MK2 0 0 := K2
    have HF := H
    exact Or.inr (⟨h1, ⟨e1, vK2, MK2, rfl, K2, HF⟩⟩)
theorem coq_49 {e : Nat} {M M' : Mem} {v : Option Value} {dz nn : Int32} (hS : SQ M) (H : Ev none e 36 49 [some (.ref 3), some (.int dz), some (.int nn)] [] M v M' 0 0) : Ev none e 36 12 [some (.ref 3), some (.int dz), some (.int (nn + 1))] [] M v M' 0 0 := by
  have H : Ev none e 36 12 [some (.ref 3), some (.int dz), some (.int (nn + 1))] [] M v M' 0 0 := Ev.back 2 (fun n => rfl) H
  have HF := H
  exact HF
/-! THE CLASS'S cond, all, one: exactly -/
/-- the class's step for a step -/
noncomputable def cM (c : Cdq) : Int32 × Int32 × Int32 :=
  if c.1 = 20 then (8, 0, 0) else if c.1 = 21 then (9, 0, 0) else if c.1 = 22 then (10, 0, 0)
  else if c.1 < 8 then (sI 3 c.1, sI 4 c.1, sI 4 c.1)
  else if c.2.1 = 60 then (sI 3 c.1, 0, c.2.2 - 1) else if c.2.1 = 61 then (sI 3 c.1, c.2.2, c.2.2) else (sI 3 c.1, c.2.2 + 1, 2147483647)
/-- the steps that a text holds -/
def CC (M : Mem) (t : Nat) (cs : List Cdq) : Prop := (zI M t 9).toInt = (cs.length : Int) ∧ cs.length ≤ 96 ∧ ∀ j c, cs[j]? = some c → rN M (t + 6) j = (cM c).1 ∧ rN M (t + 7) j = (cM c).2.1 ∧ rN M (t + 8) j = (cM c).2.2
/-- the reader in the midst of a text t -/
def CSt (B : Nat → Int32) (n t : Nat) (M : Mem) (s : Sg) : Prop := SQ M ∧ (∀ k, k < n → bC M k = B k) ∧ CTk n M s.1 ∧ (zI M 3 11).toInt = (s.2.1 : Int) ∧ s.2.1 ≤ 40 ∧ fR M 3 8 = t ∧ CC M t s.2.2 ∧ s.2.2.length ≤ 2 * s.2.1 ∧ zI M 3 12 = 0
def fP (t : Nat) : List (Nat × Nat) := [(3, 6), (3, 7), (3, 11), (3, 12), (3, 13), (t, 9)]
def wP (t : Nat) : List Nat := [t + 6, t + 7, t + 8]
def RSt (B : Nat → Int32) (n t : Nat) (M' : Mem) (v : Option Value) (r : PR) : Prop := match r with
  | .inl s => v = some (.int 1) ∧ CSt B n t M' s
  | .inr f => v = some (.int 0) ∧ SQ M' ∧ zI M' 3 12 = f.1 ∧ (zI M' 3 13).toInt = (f.2 : Int)
theorem RS_err {B : Nat → Int32} {n t : Nat} {M' : Mem} {v : Option Value} {f : Int32 × Nat} (h : RSt B n t M' v (.inr f)) : v = some (.int 0) ∧ SQ M' ∧ zI M' 3 12 = f.1 ∧ (zI M' 3 13).toInt = (f.2 : Int) := h
theorem RS_ok {B : Nat → Int32} {n t : Nat} {M' : Mem} {v : Option Value} {s : Sg} (h : RSt B n t M' v (.inl s)) : v = some (.int 1) ∧ CSt B n t M' s := h
set_option maxRecDepth 100000 in
theorem tx_110 : ∀ t ∈ fxT, 110 ≤ t ∧ t ≤ 183 := by decide
section CCN
variable {e n t : Nat} {M M' : Mem} {v : Option Value} {ts : List Tok} {B : Nat → Int32}
theorem tx_ge (ht : gNth sT t = some 28) : 110 ≤ t ∧ t ≤ 183 := tx_110 t (tx_mem ht)
theorem CC.frm {cs : List Cdq} {F : List (Nat × Nat)} {W : List Nat} (h : CC M t cs) (hF : FA F W M M') (h1 : (t, 9) ∉ F) (h2 : t + 6 ∉ W) (h3 : t + 7 ∉ W) (h4 : t + 8 ∉ W) : CC M' t cs := by
  refine ⟨by rw [hF.fi h1]; exact h.1, h.2.1, fun j c hj => ?_⟩
  rw [hF.rn h2, hF.rn h3, hF.rn h4]
  exact h.2.2 j c hj
theorem go_ok (hS : SQ M) (hT : CTk n M ts) (h0 : (hdT ts).1 ≠ 0) (h1 : (hdT ts).1 ≠ 1) (H : Ev none e 31 0 [some (.ref 3)] [] M v M' 0 0) : v = none ∧ SQ M' ∧ FA [(3, 6), (3, 7)] [] M M' ∧ CTk n M' ts.tail := by
  obtain ⟨g1, g2⟩ := g_31 hS H
  obtain ⟨TL, k, a1, a2, a3, a4, a5, a6, a7, a8⟩ := hT
  have hw := a2.tl h0 h1
  obtain ⟨r, hr⟩ := a2.ne
  obtain ⟨r2, hr2⟩ := hw.ne
  have htl : ts.tail = TL.drop (k + 1) := by rw [a1, List.tail_drop]
  have hlen : k + 1 < TL.length := by
    have h2 := congrArg List.length htl
    rw [hr2, List.length_cons, List.length_drop] at h2
    omega
  have o1 : (1 : Int32).toInt = 1 := rfl
  have e1 : (zI M 3 5 - 1).toInt = (zI M 3 5).toInt - 1 := i32_m1 (by omega)
  have hk1 : (zI M 3 6 + 1).toInt = ((k + 1 : Nat) : Int) := by rw [i32_p1 (by omega)]; omega
  have hX : X_31 M = wF (wF M 3 6 (zI M 3 6 + 1)) 3 7 (rI M 4 (zI M 3 6 + 1)) := by
    unfold X_31
    rw [if_neg (fun q => by have := Int32.le_iff_toInt_le.mp q; omega)]
  rw [hX] at g2
  have F1 : FA [(3, 6), (3, 7)] [] M M' := by
    rw [g2]
    exact (FA.wF (by decide)).trans (FA.wF (by decide))
  have S1 : SQ M' := by
    rw [g2]
    exact hS.kf.kf
  refine ⟨g1, S1, F1, TL, k + 1, htl, hw, fun t ht => a3 t (List.mem_of_mem_tail ht), ?_, by rw [F1.fi (by decide)]; exact a5, a6, fun j t hj => ?_, ?_⟩
  · rw [g2, fI_wF_ne (fun q => absurd q.2 (by decide)), fI_wF_eq hS.1 qa_3 qi_3_6]
    exact hk1
  · rw [F1.rn (by decide), F1.rn (by decide), F1.rn (by decide), F1.rn (by decide)]
    exact a7 j t hj
  · rw [g2, fI_wF_eq hS.kf.1 qa_3 qi_3_7, rI_n hk1]
    have hk : TL[k + 1]? = some (hdT ts.tail) := by
      have h1 : (TL.drop (k + 1))[0]? = some (hdT ts.tail) := by
        rw [← htl, hr2]
        rfl
      rw [List.getElem?_drop] at h1
      exact h1
    have h9 := (a7 (k + 1) _ hk).1
    rw [Nat.zero_add] at h9
    exact h9
theorem fail_ok {k : Int32} (hS : SQ M) (hT : CTk n M ts) (H : Ev none e 27 0 [some (.ref 3), some (.int k)] [] M v M' 0 0) : v = some (.int 0) ∧ SQ M' ∧ FA [(3, 12), (3, 13)] [] M M' ∧ zI M' 3 12 = k ∧ (zI M' 3 13).toInt = ((hdT ts).2.1 : Int) := by
  obtain ⟨g1, g2⟩ := g_27 hS H
  have c2 := hT.at.2.1
  have S1 : SQ M' := by
    rw [g2]
    exact X_27_sx hS
  unfold X_27 at g2
  refine ⟨g1, S1, ?_, ?_, ?_⟩
  · rw [g2]
    exact (FA.wF (by decide)).trans (FA.wF (by decide))
  · rw [g2, fI_wF_ne (fun q => absurd q.2 (by decide)), fI_wF_eq hS.1 qa_3 qi_3_12]
  · rw [g2, fI_wF_eq hS.kf.1 qa_3 qi_3_13]
    exact c2
theorem emit_ok {cs : List Cdq} {c : Cdq} {x y z : Int32} (hS : SQ M) (ht : gNth sT t = some 28) (hr : fR M 3 8 = t) (hC : CC M t cs) (hl : cs.length < 96) (hc : (x, y, z) = cM c) (H : Ev none e 40 0 [some (.ref 3), some (.int x), some (.int y), some (.int z)] [] M v M' 0 0) : v = none ∧ SQ M' ∧ FA [(t, 9)] (wP t) M M' ∧ CC M' t (cs ++ [c]) := by
  subst hr
  obtain ⟨g1, g2⟩ := g_40 hS ht H
  have S1 : SQ M' := by
    rw [g2]
    exact X_40_sx hS
  obtain ⟨a1, a2, a3⟩ := hC
  have o96 : (96 : Int32).toInt = 96 := rfl
  have hk : (zI M (fR M 3 8) 9).toNatClampNeg = cs.length := cl_n a1
  unfold X_40 at g2
  rw [if_neg (fun q => by have := Int32.le_iff_toInt_le.mp q; omega), hk] at g2
  have s1 : SQ (wI M (fR M 3 8 + 6) cs.length x) := hS.ki
  have s2 : SQ (wI (wI M (fR M 3 8 + 6) cs.length x) (fR M 3 8 + 7) cs.length y) := s1.ki
  have s3 : SQ (wI (wI (wI M (fR M 3 8 + 6) cs.length x) (fR M 3 8 + 7) cs.length y) (fR M 3 8 + 8) cs.length z) := s2.ki
  refine ⟨g1, S1, ?_, ?_, ?_, fun j c2 hj => ?_⟩
  · rw [g2]
    exact (((FA.wI (List.mem_cons_self)).trans (FA.wI (List.mem_cons_of_mem _ List.mem_cons_self))).trans (FA.wI (List.mem_cons_of_mem _ (List.mem_cons_of_mem _ List.mem_cons_self)))).trans (FA.wF List.mem_cons_self)
  · rw [g2, fI_wF_eq s3.1 ht qi_28_9, i32_p1 (by omega), List.length_append]
    show _ = ((cs.length + 1 : Nat) : Int)
    omega
  · rw [List.length_append]
    show cs.length + 1 ≤ 96
    omega
  · rw [g2, rN_wF, rN_wF, rN_wF]
    by_cases hj2 : j = cs.length
    · subst hj2
      rw [List.getElem?_append_right (Nat.le_refl _), Nat.sub_self] at hj
      cases hj
      rw [← hc]
      refine ⟨?_, ?_, ?_⟩
      · rw [rN_wI_ne (fun q => by omega), rN_wI_ne (fun q => by omega), rN_wI_eq (by rw [(hS.1.row (fx_g5 ht) qw_34).2]; omega)]
      · rw [rN_wI_ne (fun q => by omega), rN_wI_eq (by rw [(s1.1.row (fx_g6 ht) qw_35).2]; omega)]
      · rw [rN_wI_eq (by rw [(s2.1.row (fx_g7 ht) qw_36).2]; omega)]
    · have hlt : j < cs.length := by
        have h1 := (List.getElem?_eq_some_iff.mp hj).1
        rw [List.length_append] at h1
        have h1 : j < cs.length + 1 := h1
        omega
      rw [List.getElem?_append_left hlt] at hj
      rw [rN_wI_ne (fun q => hj2 q.2), rN_wI_ne (fun q => hj2 q.2), rN_wI_ne (fun q => hj2 q.2), rN_wI_ne (fun q => hj2 q.2), rN_wI_ne (fun q => hj2 q.2), rN_wI_ne (fun q => hj2 q.2), rN_wI_ne (fun q => hj2 q.2), rN_wI_ne (fun q => hj2 q.2), rN_wI_ne (fun q => hj2 q.2)]
      exact a3 j c2 hj
/-! the state moves -/
theorem CSt.wd {s : Sg} (h : CSt B n t M s) : wdS (bC M) (hdT s.1) = wdS B (hdT s.1) := by
  obtain ⟨TL, k, a1, a2, a3, a4⟩ := h.2.2.1
  obtain ⟨r, hr⟩ := a2.ne
  have hb := a3 (hdT s.1) (by rw [hr]; exact List.mem_cons_self)
  unfold wdS
  split
  · unfold slS
    refine List.map_congr_left (fun i hi => h.2.1 _ ?_)
    have := List.mem_range.mp hi
    omega
  · rfl
theorem CSt.go {s : Sg} (h : CSt B n t M s) (ht : gNth sT t = some 28) (h0 : (hdT s.1).1 ≠ 0) (h1 : (hdT s.1).1 ≠ 1) (H : Ev none e 31 0 [some (.ref 3)] [] M v M' 0 0) : v = none ∧ FA (fP t) (wP t) M M' ∧ CSt B n t M' (s.1.tail, s.2.1, s.2.2) := by
  obtain ⟨a1, a2, a3, a4, a5, a6, a7, a8, a9⟩ := h
  obtain ⟨g1, g2, g3, g4⟩ := go_ok a1 a3 h0 h1 H
  have hb := tx_ge ht
  refine ⟨g1, g3.more (fun q hq => ?_) (fun q hq => by cases hq), g2, ?_, g4, by rw [g3.fi (by decide)]; exact a4, a5, by rw [g3.fr (by decide)]; exact a6, a7.frm g3 ?_ List.not_mem_nil List.not_mem_nil List.not_mem_nil, a8, by rw [g3.fi (by decide)]; exact a9⟩
  · rcases List.mem_cons.mp hq with rfl | hq
    · exact List.mem_cons_self
    · rw [List.mem_singleton.mp hq]
      exact List.mem_cons_of_mem _ List.mem_cons_self
  · intro k hk
    rw [← a2 k hk]
    exact g3.rn (by decide)
  · intro q
    simp only [List.mem_cons, List.not_mem_nil, or_false, Prod.mk.injEq] at q
    omega
theorem CSt.fail {s : Sg} {k : Int32} (h : CSt B n t M s) (H : Ev none e 27 0 [some (.ref 3), some (.int k)] [] M v M' 0 0) : FA (fP t) (wP t) M M' ∧ RSt B n t M' v (.inr (k, (hdT s.1).2.1)) := by
  obtain ⟨a1, a2, a3, a4, a5, a6, a7, a8, a9⟩ := h
  obtain ⟨g1, g2, g3, g4, g5⟩ := fail_ok a1 a3 H
  refine ⟨g3.more (fun q hq => ?_) (fun q hq => by cases hq), g1, g2, g4, g5⟩
  rcases List.mem_cons.mp hq with rfl | hq
  · exact List.mem_cons_of_mem _ (List.mem_cons_of_mem _ (List.mem_cons_of_mem _ List.mem_cons_self))
  · rw [List.mem_singleton.mp hq]
    exact List.mem_cons_of_mem _ (List.mem_cons_of_mem _ (List.mem_cons_of_mem _ (List.mem_cons_of_mem _ List.mem_cons_self)))
theorem CSt.emit {s : Sg} {c : Cdq} {x y z : Int32} (h : CSt B n t M s) (ht : gNth sT t = some 28) (hl : s.2.2.length + 1 ≤ 2 * s.2.1) (hc : (x, y, z) = cM c) (H : Ev none e 40 0 [some (.ref 3), some (.int x), some (.int y), some (.int z)] [] M v M' 0 0) : v = none ∧ FA (fP t) (wP t) M M' ∧ CSt B n t M' (s.1, s.2.1, s.2.2 ++ [c]) := by
  obtain ⟨a1, a2, a3, a4, a5, a6, a7, a8, a9⟩ := h
  have hb := tx_ge ht
  obtain ⟨g1, g2, g3, g4⟩ := emit_ok a1 ht a6 a7 (by omega) hc H
  have nW : ∀ k, k ≤ 110 → k ∉ wP t := fun k hk q => by
    simp only [wP, List.mem_cons, List.not_mem_nil, or_false] at q
    omega
  have nF : ∀ k, (3, k) ∉ [(t, 9)] := fun k q => by
    simp only [List.mem_cons, List.not_mem_nil, or_false, Prod.mk.injEq] at q
    omega
  refine ⟨g1, g3.more (fun q hq => ?_) (fun q hq => hq), g2, ?_, a3.frm g3 (nF _) (nF _) (nF _) (nW _ (by omega)) (nW _ (by omega)) (nW _ (by omega)) (nW _ (by omega)), by rw [g3.fi (nF _)]; exact a4, a5, by rw [g3.fr (nF _)]; exact a6, g4, by rw [List.length_append]; exact hl, by rw [g3.fi (nF _)]; exact a9⟩
  · rw [List.mem_singleton.mp hq]
    exact List.mem_cons_of_mem _ (List.mem_cons_of_mem _ (List.mem_cons_of_mem _ (List.mem_cons_of_mem _ (List.mem_cons_of_mem _ List.mem_cons_self))))
  · intro k hk
    rw [← a2 k hk]
    exact g3.rn (nW _ (by omega))
theorem CSt.one {s : Sg} (h : CSt B n t M s) (ht : gNth sT t = some 28) (h40 : s.2.1 < 40) : FA (fP t) (wP t) M (wF M 3 11 (zI M 3 11 + 1)) ∧ CSt B n t (wF M 3 11 (zI M 3 11 + 1)) (s.1, s.2.1 + 1, s.2.2) := by
  obtain ⟨a1, a2, a3, a4, a5, a6, a7, a8, a9⟩ := h
  have hb := tx_ge ht
  have F : FA [(3, 11)] [] M (wF M 3 11 (zI M 3 11 + 1)) := FA.wF List.mem_cons_self
  refine ⟨F.more (fun q hq => ?_) (fun q hq => by cases hq), a1.kf, ?_, a3.frm F (by decide) (by decide) (by decide) List.not_mem_nil List.not_mem_nil List.not_mem_nil List.not_mem_nil, ?_, h40, by rw [F.fr (by decide)]; exact a6, a7.frm F ?_ List.not_mem_nil List.not_mem_nil List.not_mem_nil, by dsimp only; omega, by rw [F.fi (by decide)]; exact a9⟩
  · rw [List.mem_singleton.mp hq]
    exact List.mem_cons_of_mem _ (List.mem_cons_of_mem _ List.mem_cons_self)
  · intro k hk
    rw [← a2 k hk]
    exact F.rn List.not_mem_nil
  · rw [fI_wF_eq a1.1 qa_3 qi_3_11, i32_p1 (by omega)]
    dsimp only
    omega
  · intro q
    simp only [List.mem_cons, List.not_mem_nil, or_false, Prod.mk.injEq] at q
    omega
end CCN
/-! THE CLASS'S cond, all, one: what they tell is what the parser tells -/
section CCQ
variable {n t : Nat} {B : Nat → Int32}
theorem FA.tr {F : List (Nat × Nat)} {W : List Nat} {M M1 M2 : Mem} (h1 : FA F W M M1) (h2 : FA F W M1 M2) : FA F W M M2 := h1.trans h2
theorem wd_ne {u : List Int32} {tk : Tok} (h : wdS B tk = u) (hu : u ≠ []) : tk.1 = 2 := by
  unfold wdS at h
  by_cases q : tk.1 = 2
  · exact q
  · rw [if_neg q] at h
    exact absurd h.symm hu
theorem ixF_bd {w : List Int32} : ∀ (ws : List (List Int32)) (i : Int32), 0 ≤ i.toInt → i.toInt + ws.length ≤ 100 → (ixF w ws i = -1) ∨ (i.toInt ≤ (ixF w ws i).toInt ∧ (ixF w ws i).toInt < i.toInt + ws.length ∧ w ∈ ws) := by
  intro ws
  induction ws with
  | nil => intro i _ _; exact Or.inl rfl
  | cons u r ih =>
    intro i h0 h1
    rw [List.length_cons] at h1
    have hi : (i + 1).toInt = i.toInt + 1 := i32_p1 (by omega)
    show (if w = u then i else ixF w r (i + 1)) = -1 ∨ (i.toInt ≤ (if w = u then i else ixF w r (i + 1)).toInt ∧ (if w = u then i else ixF w r (i + 1)).toInt < i.toInt + ((u :: r).length : Nat) ∧ w ∈ u :: r)
    rw [List.length_cons]
    by_cases hw : w = u
    · rw [if_pos hw]
      exact Or.inr ⟨by omega, by omega, by rw [hw]; exact List.mem_cons_self⟩
    · rw [if_neg hw]
      rcases ih (i + 1) (by omega) (by omega) with h | ⟨h, h2, h3⟩
      · exact Or.inl h
      · exact Or.inr ⟨by omega, by omega, List.mem_cons_of_mem _ h3⟩
/-- what a word among the ONES is -/
theorem one_wd {tk : Tok} (h : ¬ ixF (wdS B tk) oneW 0 < 0) : tk.1 = 2 ∧ 0 ≤ (ixF (wdS B tk) oneW 0).toInt ∧ (ixF (wdS B tk) oneW 0).toInt ≤ 12 := by
  have z0 : (0 : Int32).toInt = 0 := rfl
  rcases ixF_bd (w := wdS B tk) oneW 0 (by decide) (by decide) with q | ⟨q1, q2, q3⟩
  · rw [q] at h
    exact absurd (by decide) h
  · have h4 : (oneW.length : Int) = 13 := rfl
    refine ⟨wd_ne (B := B) (u := wdS B tk) rfl (fun x => ?_), by omega, by omega⟩
    rw [x] at q3
    revert q3
    decide
theorem i32_in {a : Int32} {k : Nat} (h0 : 0 ≤ a.toInt) (h1 : a.toInt ≤ (k : Int)) (hk : k < 1000) : ∃ m, m ≤ k ∧ a = nI m := by
  refine ⟨a.toInt.toNat, by omega, Int32.toInt_inj.mp ?_⟩
  rw [nI_toInt (lt31 (by omega))]
  omega
theorem one_tab : ∀ m : Nat, m ≤ 12 → ((sI 3 (nI m) = 8) ↔ nI m = 12) ∧ (m < 12 → (sI 3 (nI m) < 4 ↔ ¬ (8 : Int32) ≤ nI m)) ∧ ¬ nI m < 0 ∧ (0 : Int32) ≤ nI m := by decide
theorem cM_flag : ∀ m : Nat, m ≤ 7 → (sI 3 (nI m), sI 4 (nI m), sI 4 (nI m)) = cM (nI m, 0, 0) := by
  intro m hm
  unfold cM
  have h : nI m ≠ 20 ∧ nI m ≠ 21 ∧ nI m ≠ 22 ∧ nI m < 8 := by
    revert m
    decide
  rw [if_neg h.1, if_neg h.2.1, if_neg h.2.2.1, if_pos h.2.2.2]
theorem cM_cmp0 : ∀ m : Nat, m ≤ 11 → 8 ≤ m → nI m ≠ 20 ∧ nI m ≠ 21 ∧ nI m ≠ 22 ∧ ¬ nI m < 8 := by decide
theorem cM_cmp (m : Nat) (h8 : 8 ≤ m) (h11 : m ≤ 11) : nI m ≠ 20 ∧ nI m ≠ 21 ∧ nI m ≠ 22 ∧ ¬ nI m < 8 := cM_cmp0 m h11 h8
theorem fail_ret {M M1 M' : Mem} {v v1 : Option Value} {s : Sg} {k : Int32} {d : Nat} (hC : CSt B n t M s) (H1 : Ev none d 27 0 [some (.ref 3), some (.int k)] [] M v1 M1 0 0) (hr : ∀ y : Int32, v1 = some (.int y) → v = some (.int y) ∧ M' = M1) : FA (fP t) (wP t) M M' ∧ RSt B n t M' v (.inr (k, (hdT s.1).2.1)) := by
  obtain ⟨f1, f2⟩ := hC.fail H1
  obtain ⟨r1, r2⟩ := hr 0 (RS_err f2).1
  subst r2
  exact ⟨f1, r1, (RS_err f2).2⟩
theorem cmp_ok {e m : Nat} {M M' : Mem} {v : Option Value} {s : Sg} (ht : gNth sT t = some 28) (h8 : 8 ≤ m) (h11 : m ≤ 11) (hC : CSt B n t M s) (hl : s.2.2.length + 1 ≤ 2 * s.2.1) (H : Ev none e 39 0 [some (.ref 3), some (.int (sI 3 (nI m))), none, none] [] M v M' 0 0) : FA (fP t) (wP t) M M' ∧ RSt B n t M' v (cmpS (nI m) s) := by
  have hS := hC.1
  obtain ⟨c1, c2, c3, c4, c5, c6, c7⟩ := hC.2.2.1.at
  obtain ⟨k1, k2, k3, k4⟩ := cM_cmp m h8 h11
  -- behind the sign
  have rest : ∀ {e1 : Nat} {v1 : Option Value} {M1 : Mem}, ((hdT s.1).1 = 60 ∨ (hdT s.1).1 = 61 ∨ (hdT s.1).1 = 62) → Ev none e1 31 0 [some (.ref 3)] [] M v1 M1 0 0 → Ev none e 39 33 [some (.ref 3), some (.int (sI 3 (nI m))), some (.int (zI M 3 7)), none] (v1.toList ++ []) M1 v M' 0 0 → FA (fP t) (wP t) M M' ∧ RSt B n t M' v (cmpS (nI m) s) := by
    intro e1 v1 M1 hq H1 H
    have q0 : (hdT s.1).1 ≠ 0 := fun q => by rw [q] at hq; revert hq; decide
    have q1 : (hdT s.1).1 ≠ 1 := fun q => by rw [q] at hq; revert hq; decide
    obtain ⟨rfl, F1, C1⟩ := hC.go ht q0 q1 H1
    obtain ⟨b1, b2, b3, b4, b5, b6, b7⟩ := C1.2.2.1.at
    have H : Ev none e 39 33 [some (.ref 3), some (.int (sI 3 (nI m))), some (.int (zI M 3 7)), none] [] M1 v M' 0 0 := H
    rw [c5] at H
    have hcmp : ¬ ((hdT s.1).1 ≠ 60 ∧ (hdT s.1).1 ≠ 61 ∧ (hdT s.1).1 ≠ 62) := fun q => hq.elim q.1 (fun x => x.elim q.2.1 q.2.2)
    unfold cmpS
    rw [if_neg hcmp]
    -- behind the step
    have fin : ∀ {e2 : Nat} {v2 : Option Value} {M2 : Mem} {x y z : Int32}, (hdT s.1.tail).1 = 3 → (x, y, z) = cM (nI m, (hdT s.1).1, (hdT s.1.tail).2.2.2) → Ev none e2 40 0 [some (.ref 3), some (.int x), some (.int y), some (.int z)] [] M1 v2 M2 0 0 → (v2 = none → SQ M2 → ∃ e3 v3 M3, Ev none e3 31 0 [some (.ref 3)] [] M2 v3 M3 0 0 ∧ (v3 = none → SQ M3 → v = some (.int 1) ∧ M' = M3)) → FA (fP t) (wP t) M M' ∧ RSt B n t M' v (if (hdT s.1.tail).1 ≠ 3 then .inr (1, (hdT s.1.tail).2.1) else .inl (s.1.tail.tail, s.2.1, s.2.2 ++ [(nI m, (hdT s.1).1, (hdT s.1.tail).2.2.2)])) := by
      intro e2 v2 M2 x y z h3 hxyz H2 hr
      obtain ⟨rfl, F2, C2⟩ := C1.emit ht hl hxyz H2
      obtain ⟨e3, v3, M3, H3, hr⟩ := hr rfl C2.1
      obtain ⟨rfl, F3, C3⟩ := C2.go ht (by rw [h3]; decide) (by rw [h3]; decide) H3
      obtain ⟨rfl, rfl⟩ := hr rfl C3.1
      rw [if_neg (fun q => q h3)]
      exact ⟨(F1.tr F2).tr F3, rfl, C3⟩
    rcases cm_33 C1.1 H with ⟨g1, g2, e2, v2, M2, rfl, H2, H⟩ | ⟨g1, g2, g3, e2, v2, M2, rfl, H2, H⟩ | ⟨g1, g2, g3, e2, v2, M2, rfl, H2, H⟩ | ⟨g1, e2, v2, M2, rfl, H2, H⟩
    · rw [b5] at g1
      have g1 : (hdT s.1.tail).1 = 3 := g1
      have hcm : (sI 3 (nI m), (0 : Int32), rI M1 7 (zI M1 3 6) - 1) = cM (nI m, (hdT s.1).1, (hdT s.1.tail).2.2.2) := by
        unfold cM
        rw [if_neg k1, if_neg k2, if_neg k3, if_neg k4, if_pos g2, b4 g1]
      refine fin g1 hcm H2 (fun hv S2 => ?_)
      subst hv
      obtain ⟨e3, v3, M3, h1, H3, H⟩ := cm_72 S2 H
      exact ⟨e3, v3, M3, H3, fun hv S3 => by subst hv; exact cm_105 S3 H⟩
    · rw [b5] at g1
      have g1 : (hdT s.1.tail).1 = 3 := g1
      have hcm : (sI 3 (nI m), rI M1 7 (zI M1 3 6), rI M1 7 (zI M1 3 6)) = cM (nI m, (hdT s.1).1, (hdT s.1.tail).2.2.2) := by
        unfold cM
        rw [if_neg k1, if_neg k2, if_neg k3, if_neg k4, if_neg g2, if_pos g3, b4 g1]
      refine fin g1 hcm H2 (fun hv S2 => ?_)
      subst hv
      obtain ⟨e3, v3, M3, h1, H3, H⟩ := cm_88 S2 H
      exact ⟨e3, v3, M3, H3, fun hv S3 => by subst hv; exact cm_105 S3 H⟩
    · rw [b5] at g1
      have g1 : (hdT s.1.tail).1 = 3 := g1
      have hcm : (sI 3 (nI m), rI M1 7 (zI M1 3 6) + 1, (2147483647 : Int32)) = cM (nI m, (hdT s.1).1, (hdT s.1.tail).2.2.2) := by
        unfold cM
        rw [if_neg k1, if_neg k2, if_neg k3, if_neg k4, if_neg g2, if_neg g3, b4 g1]
      refine fin g1 hcm H2 (fun hv S2 => ?_)
      subst hv
      obtain ⟨e3, v3, M3, h1, H3, H⟩ := cm_101 S2 H
      exact ⟨e3, v3, M3, H3, fun hv S3 => by subst hv; exact cm_105 S3 H⟩
    · rw [b5] at g1
      have g1 : ¬ (hdT s.1.tail).1 = 3 := g1
      rw [if_pos g1]
      obtain ⟨r1, r2⟩ := fail_ret (v := v) (M' := M') C1 H2 (fun y hy => by subst hy; exact cm_46 (RS_err (C1.fail H2).2).2.1 H)
      exact ⟨F1.tr r1, r2⟩
  rcases cm_0 hS H with ⟨g1, e1, v1, M1, rfl, H1, H⟩ | ⟨g1, g2, e1, v1, M1, rfl, H1, H⟩ | ⟨g1, g2, g3, e1, v1, M1, rfl, H1, H⟩ | ⟨g1, g2, g3, e1, v1, M1, rfl, H1, H⟩
  · rw [c5] at g1
    exact rest (Or.inl g1) H1 H
  · rw [c5] at g2
    exact rest (Or.inr (Or.inl g2)) H1 H
  · rw [c5] at g3
    exact rest (Or.inr (Or.inr g3)) H1 H
  · rw [c5] at g1 g2 g3
    unfold cmpS
    rw [if_pos ⟨g1, g2, g3⟩]
    exact fail_ret hC H1 (fun y hy => by subst hy; exact cm_28 (RS_err (hC.fail H1).2).2.1 H)
end CCQ
