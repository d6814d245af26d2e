/-! THE CLASS'S choose -/
def SXc (M : Mem) : Prop := ∀ m, m < 7 → oN M 129 m = 130 + m
def GRD (P : PK) (M : Mem) : Prop := ∀ c, inC P c → rI M 106 c = c - c / P 0 * P 0 ∧ rI M 107 c = c / P 0 ∧ ∀ d : Int32, 0 ≤ d.toInt → d.toInt < 8 → rI M 108 (8 * c + d) = besP P c d
/-- all that the class's walking rests on -/
def CTX (L : Nat) (T : TS) (P : PK) (M : Mem) : Prop := CV L (T 0) P M ∧ wh4 P ∧ (∀ c, inC P c → nnC P c) ∧ SXc M ∧ GRD P M ∧ (TXT M (fR M 104 2) (T 0) ∧ LW (T 0)) ∧ (∀ h, h < 6 → TXT M (oN M 109 h) (T (h + 1)) ∧ LW (T (h + 1))) ∧ ∀ c, inC P c → rI M (L + 8) c = crdP P c (P 157).toInt.toNat
def lkW (a : Nat) : Prop := a = 128 ∨ (130 ≤ a ∧ a ≤ 136)
def noF (_ _ : Nat) : Prop := False
def noO (_ : Nat) : Prop := False
def ixA (h : Nat) (c : Int32) : Nat := 256 * h + c.toInt.toNat
def OKv (T : TS) (P : PK) (M : Mem) (h : Nat) (c : Int32) : Prop := rN M 128 (ixA h c) = bI (nevL (T 0) P (T (h + 1)) c (T (h + 1)).2) ∧ ∀ m, m < 7 → rN M (130 + m) (ixA h c) = sumL (T 0) P (T (h + 1)) c (nI m) (T (h + 1)).2 0
/-- what was looked at and kept -/
def VC (T : TS) (P : PK) (M : Mem) : Prop := ∀ h c, h < 6 → inC P c → rN M 128 (ixA h c) = -1 ∨ OKv T P M h c
set_option maxRecDepth 100000 in
theorem su_g : ∀ m, m < 7 → gNth sT (130 + m) = some 39 := by decide +kernel
section CHO
variable {e L t : Nat} {T : TS} {g q : TQ} {P : PK} {M M1 M' : Mem} {v : Option Value} {c d : Int32}
theorem ld_cases (h : gNth sT L = some 8) : L = 8 ∨ L = 243 ∨ L = 345 ∨ L = 441 ∨ L = 537 := by
  have h1 := tl_mem h
  unfold fxA at h1
  simp only [List.mem_cons, List.not_mem_nil, or_false] at h1
  exact h1
theorem tx_cases (h : gNth sT t = some 28) : t = 110 ∨ t = 119 ∨ t = 138 ∨ t = 147 ∨ t = 156 ∨ t = 165 ∨ t = 174 ∨ t = 183 := by
  have h1 := tx_mem h
  unfold fxT at h1
  simp only [List.mem_cons, List.not_mem_nil, or_false] at h1
  exact h1
theorem LCt.fz {F : Nat → Nat → Prop} {W O : Nat → Prop} {ls : List Lnq} (h : LCt M t ls) (hF : FZ F W O M M') (f : ¬ F t 8) (w : ∀ k, 1 ≤ k → k ≤ 5 → ¬ W (t + k)) : LCt M' t ls := by
  refine ⟨by rw [hF.fi f]; exact h.1, h.2.1, fun j l hj => ?_⟩
  rw [hF.rn (w 1 (by decide) (by decide)), hF.rn (w 2 (by decide) (by decide)), hF.rn (w 3 (by decide) (by decide)), hF.rn (w 4 (by decide) (by decide)), hF.rn (w 5 (by decide) (by decide))]
  exact h.2.2 j l hj
theorem CC.fz {F : Nat → Nat → Prop} {W O : Nat → Prop} {cs : List Cdq} (h : CC M t cs) (hF : FZ F W O M M') (f : ¬ F t 9) (w : ∀ k, 6 ≤ k → k ≤ 8 → ¬ W (t + k)) : CC M' t cs := by
  refine ⟨by rw [hF.fi f]; exact h.1, h.2.1, fun j c hj => ?_⟩
  rw [hF.rn (w 6 (by decide) (by decide)), hF.rn (w 7 (by decide) (by decide)), hF.rn (w 8 (by decide) (by decide))]
  exact h.2.2 j c hj
theorem TXT.fz {F : Nat → Nat → Prop} {W O : Nat → Prop} (h : TXT M t q) (hF : FZ F W O M M') (f : ∀ k, ¬ F t k) (w : ∀ k, 1 ≤ k → k ≤ 8 → ¬ W (t + k)) : TXT M' t q := by
  obtain ⟨h1, h2, h3, h4, h5, h6⟩ := h
  refine ⟨h1.fz hF (f 8) (fun k a b => w k a (by omega)), h2.fz hF (f 9) (fun k a b => w k (by omega) b), ?_, ?_, ?_, ?_⟩
  · rw [hF.fi (f 10)]; exact h3
  · rw [hF.fi (f 11)]; exact h4
  · rw [hF.fi (f 12)]; exact h5
  · rw [hF.fi (f 13)]; exact h6
theorem hab_t (hS : SH M) {h : Nat} (hh : h < 6) : gNth sT (oN M 109 h) = some 28 := ((hS.ror qa_109 qz_27).2.2 h hh).2
theorem law_t (hS : SH M) : gNth sT (fR M 104 2) = some 28 := (hS.fr qa_104 qr_22_2).2
theorem lk_tx (ht : gNth sT t = some 28) : ∀ k, 1 ≤ k → k ≤ 8 → ¬ lkW (t + k) := by
  intro k h1 h2 h
  unfold lkW at h
  rcases tx_cases ht with h | h | h | h | h | h | h | h <;> omega
theorem lk_ld (hL : gNth sT L = some 8) : ∀ k, k ≤ 95 → ¬ lkW (L + k) := by
  intro k h2 h
  unfold lkW at h
  rcases ld_cases hL with h | h | h | h | h <;> omega
theorem CTX.lk (h : CTX L T P M) (hS : SQ M') (hF : FZ noF lkW noO M M') : CTX L T P M' := by
  obtain ⟨⟨a1, a2, a3, a4, a5, a6, a7⟩, b1, b2, b3, b4, ⟨b5, b6⟩, b7, b8⟩ := h
  have nf : ∀ a k, ¬ noF a k := fun _ _ h => h
  have no : ∀ a, ¬ noO a := fun _ h => h
  have hl := law_t a1.1
  have e2 : fR M' 104 2 = fR M 104 2 := hF.fr (nf _ _)
  refine ⟨⟨hS, by rw [hF.fr (nf _ _)]; exact a2, a3, ?_, ?_, ?_, fun k f hk hf => ?_⟩, b1, b2, fun m hm => by rw [hF.on (no _)]; exact b3 m hm, fun c hc => ?_, ⟨?_, b6⟩, fun h hh => ?_, fun c hc => ?_⟩
  · rw [e2, hF.fi (nf _ _)]; exact a4
  · rw [e2, hF.fi (nf _ _)]; exact a5
  · rw [e2, hF.fi (nf _ _)]; exact a6
  · rw [show L + 1 + f = L + (1 + f) from by omega, hF.rn (lk_ld a3 (1 + f) (by omega)), ← show L + 1 + f = L + (1 + f) from by omega]; exact a7 k f hk hf
  · obtain ⟨g1, g2, g3⟩ := b4 c hc
    have r6 : ∀ j, rI M' 106 j = rI M 106 j := fun j => hF.rn (by unfold lkW; omega)
    have r7 : ∀ j, rI M' 107 j = rI M 107 j := fun j => hF.rn (by unfold lkW; omega)
    have r8 : ∀ j, rI M' 108 j = rI M 108 j := fun j => hF.rn (by unfold lkW; omega)
    rw [r6, r7]
    exact ⟨g1, g2, fun d d0 d1 => by rw [r8]; exact g3 d d0 d1⟩
  · rw [e2]
    exact b5.fz hF (fun k => nf _ _) (lk_tx hl)
  · rw [hF.on (no _)]
    exact ⟨(b7 h hh).1.fz hF (fun k => nf _ _) (lk_tx (hab_t a1.1 hh)), (b7 h hh).2⟩
  · have : rI M' (L + 8) c = rI M (L + 8) c := hF.rn (lk_ld a3 8 (by decide))
    rw [this]
    exact b8 c hc
theorem tv_rng {ls : List Lnq} (hw : ∀ l ∈ ls, nuOK l.1 l.2.1 l.2.2.1) (k d : Int32) : tvS ls k d = d ∨ ∃ l ∈ ls, l.1 = k ∧ tvS ls k d = l.2.2.1 := by
  unfold tvS
  split
  · rename_i l e
    have h1 := List.find?_some e
    exact Or.inr ⟨l, List.mem_of_find?_eq_some e, of_decide_eq_true h1, rfl⟩
  · exact Or.inl rfl
theorem bd_rng (hw : LW q) : 1 ≤ (bdQ q).toInt ∧ (bdQ q).toInt ≤ 999 := by
  unfold bdQ
  rcases tv_rng (fun l hl => (hw l hl).1) 2 40 with e | ⟨l, hl, e1, e2⟩
  · rw [e]; decide
  · rw [e2]
    have h := (hw l hl).1
    exact ⟨h.2.2.2.1 e1, h.2.1⟩
theorem si_rng (hw : LW q) : 0 ≤ (siQ q).toInt ∧ (siQ q).toInt ≤ 9 := by
  unfold siQ
  rcases tv_rng (fun l hl => (hw l hl).1) 7 3 with e | ⟨l, hl, e1, e2⟩
  · rw [e]; decide
  · rw [e2]
    have h := (hw l hl).1
    exact ⟨h.1, h.2.2.2.2 e1⟩
theorem g7_ok (hV : CV L g P M) (hc : inC P c) : G_7 M L c = bI (opnB P c) := by
  have r0 : rI M (L + 1) c = cE P 0 c := hV.2.2.2.2.2.2.at hc (f := 0) (by decide)
  unfold G_7 opnB
  rw [r0]
  by_cases h3 : cE P 0 c = 3
  · rw [if_pos h3, decide_eq_true h3]; rfl
  · rw [if_neg h3, decide_eq_false h3]
    by_cases h6 : cE P 0 c = 6
    · rw [if_pos h6, decide_eq_true h6]; rfl
    · rw [if_neg h6, decide_eq_false h6]; rfl
theorem g8_ok (hV : CV L g P M) (hc : inC P c) : G_8 M L c = bI (grnB P c) := by
  have r0 : rI M (L + 1) c = cE P 0 c := hV.2.2.2.2.2.2.at hc (f := 0) (by decide)
  unfold G_8 grnB
  rw [r0]
  by_cases h3 : cE P 0 c = 0
  · rw [if_pos h3, decide_eq_true h3]; rfl
  · rw [if_neg h3, decide_eq_false h3]
    by_cases h6 : cE P 0 c = 2
    · rw [if_pos h6, decide_eq_true h6]; rfl
    · rw [if_neg h6, decide_eq_false h6]; rfl
theorem g56_ok (hV : CV L g P M) (hc : inC P c) : G_56 M c = bI (wrnB g P c) := by
  have r0 : rI M (L + 4) c = cE P 3 c := hV.2.2.2.2.2.2.at hc (f := 3) (by decide)
  unfold G_56 wrnB
  rw [hV.2.1, r0, hV.2.2.2.1]
  by_cases h : cE P 3 c < bdQ g
  · rw [if_pos h, decide_eq_false (fun q => by rw [Int32.lt_iff_toInt_lt] at h; have := Int32.le_iff_toInt_le.mp q; omega)]; rfl
  · rw [if_neg h, decide_eq_true (Int32.le_iff_toInt_le.mpr (by rw [Int32.lt_iff_toInt_lt] at h; omega))]; rfl
theorem bI_0 {b : Bool} : bI b = 0 ↔ b = false := by cases b <;> decide
theorem bI_1 {b : Bool} : bI b = 1 ↔ b = true := by cases b <;> decide
theorem ln_at {ls : List Lnq} {j : Nat} {l : Lnq} {r : List Lnq} (h : ls.drop j = l :: r) : ls[j]? = some l ∧ ls.drop (j + 1) = r ∧ j < ls.length := by
  have h1 : (ls.drop j)[0]? = some l := by rw [h]; rfl
  rw [List.getElem?_drop] at h1
  refine ⟨h1, ?_, ?_⟩
  · have h2 : (ls.drop j).drop 1 = r := by rw [h]; rfl
    rw [List.drop_drop] at h2
    exact h2
  · exact (List.getElem?_eq_some_iff.mp h1).1
theorem dr_nil {ls : List Lnq} {j : Nat} (h : ls.drop j = []) : ls.length ≤ j := List.drop_eq_nil_iff.mp h
/-- the first line of a kind that holds: its NUMBER -/
theorem fnb_loop (hX : CTX L T P M) (hc : inC P c) {wh wo : Int32} : ∀ (r : List Lnq) (j : Nat) (i : Int32), (T 0).2.drop j = r → i.toInt = (j : Int) → j ≤ (T 0).2.length → Ev none e 64 3 [some (.ref 104), some (.int wh), some (.int c), some (.int wo), some (.int i)] [] M v M' 0 0 → M' = M ∧ v = some (.int (fstL (T 0) P wh c wo r)) := by
  have hS := hX.1.1
  have hl := law_t hS.1
  obtain ⟨ht, hw⟩ := hX.2.2.2.2.2.1
  have hn := hX.2.2.1 c hc
  have l1 := ht.1.1
  have l2 := ht.1.2.1
  intro r
  induction r with
  | nil =>
    intro j i hd hi hj H
    have h1 := dr_nil hd
    rcases fnb_3 hS H with ⟨_, h2, h3⟩ | ⟨a1, _⟩ | ⟨a1, _⟩
    · exact ⟨h3, h2⟩
    all_goals exact absurd (Int32.le_iff_toInt_le.mpr (by omega)) a1
  | cons l r ih =>
    intro j i hd hi hj H
    obtain ⟨h1, h2, h3⟩ := ln_at hd
    have hi1 : (i + 1).toInt = ((j + 1 : Nat) : Int) := by
      rw [i32_p1 (by omega)]
      omega
    have hk : rI M (fR M 104 2 + 1) i = l.1 := by
      rw [rI_n hi]
      exact (ht.1.2.2 j l h1).1
    have hnu : rI M (fR M 104 2 + 3) i = l.2.2.1 := by
      rw [rI_n hi]
      exact (ht.1.2.2 j l h1).2.2.1
    unfold fstL
    rcases fnb_3 hS H with ⟨a1, _⟩ | ⟨_, a2, _, e1, v1, M1, rfl, H1, H⟩ | ⟨_, a2, _, H⟩
    · have := Int32.le_iff_toInt_le.mp a1
      omega
    · rw [hk] at a2
      obtain ⟨rfl, rfl⟩ := holds_ok hX.1 hl ht hw hc hn hi h1 H1
      rcases fnb_40 hS H with ⟨b1, H⟩ | ⟨b1, _, b2, b3⟩
      · rw [if_neg (fun q => by have := bI_0.mp b1; rw [q.2] at this; cases this)]
        exact ih (j + 1) _ h2 hi1 (by omega) H
      · rw [hnu] at b2
        have hb : hldP (T 0) P (T 0) l c = true := by
          cases hh : hldP (T 0) P (T 0) l c with
          | true => rfl
          | false => exact absurd (bI_0.mpr hh) b1
        rw [if_pos ⟨a2, hb⟩]
        exact ⟨b3, b2⟩
    · rw [hk] at a2
      rw [if_neg (fun q => a2 q.1)]
      exact ih (j + 1) _ h2 hi1 (by omega) H
theorem fnb_ok (hX : CTX L T P M) (hc : inC P c) {wh wo : Int32} (H : Ev none e 64 0 [some (.ref 104), some (.int wh), some (.int c), some (.int wo), none] [] M v M' 0 0) : M' = M ∧ v = some (.int (fstL (T 0) P wh c wo (T 0).2)) := fnb_loop hX hc (T 0).2 0 0 rfl rfl (Nat.zero_le _) (fnb_0 hX.1.1 H)
/-- how many ahead are WORN -/
theorem wha_loop (hX : CTX L T P M) (d0 : 0 ≤ d.toInt) (d1 : d.toInt < 8) {c0 si : Int32} : ∀ (n : Nat) (nn av k : Int32), (si.toInt - k.toInt).toNat = n → 0 ≤ k.toInt → (av = -1 ∨ inC P av) → Ev none e 69 9 [some (.ref 104), some (.int c0), some (.int d), some (.int si), some (.int nn), some (.int av), some (.int k)] [] M v M' 0 0 → M' = M ∧ v = some (.int (seeP (T 0) P d n av nn)) := by
  have hS := hX.1.1
  have hL := hX.1.2.1
  have hT := hX.1.2.2.1
  intro n
  induction n with
  | zero =>
    intro nn av k hn k0 _ H
    rcases wha_9 hS H with ⟨_, h2, h3⟩ | ⟨a1, _⟩ | ⟨a1, _⟩ | ⟨a1, _⟩ | ⟨a1, _⟩
    · exact ⟨h3, h2⟩
    all_goals exact absurd (Int32.le_iff_toInt_le.mpr (by omega)) a1
  | succ n ih =>
    intro nn av k hn k0 ha H
    have hsi := i32_lt si
    have hk1 : (k + 1).toInt = k.toInt + 1 := i32_p1 (by omega)
    unfold seeP
    have hop : ¬ av = -1 → inC P av ∧ ¬ av < 0 := fun q => by
      rcases ha with h | h
      · exact absurd h q
      · exact ⟨h, fun r => by rw [i32_z] at r; have := h.1; omega⟩
    rcases wha_9 hS H with ⟨a1, _⟩ | ⟨_, a2, h2, h3⟩ | ⟨_, a2, a3, h2, h3⟩ | ⟨_, a2, a3, a4, _, H⟩ | ⟨_, a2, a3, a4, _, H⟩
    · have := Int32.le_iff_toInt_le.mp a1
      omega
    · rw [if_pos (Or.inl (by rw [a2]; decide))]
      exact ⟨h3, h2⟩
    · obtain ⟨q1, q2⟩ := hop a2
      rw [hL, g7_ok hX.1 q1, bI_0] at a3
      rw [if_pos (Or.inr a3)]
      exact ⟨h3, h2⟩
    · obtain ⟨q1, q2⟩ := hop a2
      rw [hL, g7_ok hX.1 q1, bI_0] at a3
      rw [g56_ok hX.1 q1, bI_0] at a4
      rw [if_neg (fun q => q.elim q2 a3), a4, if_neg (by decide)]
      rw [(hX.2.2.2.2.1 av q1).2.2 d d0 d1] at H
      exact ih _ _ _ (by rw [hk1]; omega) (by omega) (besP_in hX.2.1 q1) H
    · obtain ⟨q1, q2⟩ := hop a2
      rw [hL, g7_ok hX.1 q1, bI_0] at a3
      rw [g56_ok hX.1 q1, bI_0, Bool.not_eq_false] at a4
      rw [if_neg (fun q => q.elim q2 a3), a4, if_pos rfl]
      rw [(hX.2.2.2.2.1 av q1).2.2 d d0 d1] at H
      exact ih _ _ _ (by rw [hk1]; omega) (by omega) (besP_in hX.2.1 q1) H
theorem wha_ok (hX : CTX L T P M) (d0 : 0 ≤ d.toInt) (d1 : d.toInt < 8) (hc : inC P c) {si : Int32} (s0 : 0 ≤ si.toInt) (H : Ev none e 69 0 [some (.ref 104), some (.int c), some (.int d), some (.int si), none, none, none] [] M v M' 0 0) : M' = M ∧ v = some (.int (seeP (T 0) P d si.toInt.toNat c 0)) := wha_loop hX d0 d1 si.toInt.toNat 0 c 0 (by have : (0 : Int32).toInt = 0 := rfl; omega) (by decide) (Or.inr hc) (wha_0 hX.1.1 H)
/-! looking at a CELL -/
theorem lk_wI1 {j : Nat} {x : Int32} : FZ noF lkW noO M (wI M 128 j x) := FZ.wI (Or.inl rfl)
theorem lk_wI2 {m j : Nat} {x : Int32} (hm : m < 7) : FZ noF lkW noO M (wI M (130 + m) j x) := FZ.wI (Or.inr ⟨by omega, by omega⟩)
theorem row128 (hS : SH M) : (zrw M 128).length = 1536 := (hS.row qa_128 qw_37).2
theorem row130 (hS : SH M) {m : Nat} (hm : m < 7) : (zrw M (130 + m)).length = 1536 := (hS.row (su_g m hm) qw_39).2
/-- the sums of one place -/
def SUa (A : Nat) (s : Int32 → Int32) (M : Mem) : Prop := ∀ m, m < 7 → rN M (130 + m) A = s (nI m)
/-- but for one place all as it was -/
def OTa (A : Nat) (M M' : Mem) : Prop := ∀ b j, lkW b → j ≠ A → rN M' b j = rN M b j
theorem OTa.refl {A : Nat} : OTa A M M := fun _ _ _ _ => rfl
theorem OTa.trans {A : Nat} (h1 : OTa A M M1) (h2 : OTa A M1 M') : OTa A M M' := fun b j hb hj => (h2 b j hb hj).trans (h1 b j hb hj)
theorem OTa.wI {A b : Nat} {x : Int32} : OTa A M (wI M b A x) := fun b' j _ hj => rN_wI_ne (fun q => hj q.2)
theorem oI_sum (hX : SXc M) {m : Int32} {k : Nat} (hm : m.toInt = (k : Int)) (hk : k < 7) : oI M 129 m = 130 + k := by
  unfold oI
  rw [cl_n hm]
  exact hX k hk
theorem loo_z (hX : SXc M) (hS : SQ M) (ht : gNth sT t = some 28) {av : Int32} {A : Nat} (hA : av.toInt = (A : Int)) (hA2 : A < 1536) : ∀ (n k : Nat) (i : Int32) (c5 : Option Value), i.toInt = (k : Int) → n + k = 7 → (∀ m, m < k → rN M (130 + m) A = 0) → Ev none e 67 10 [some (.ref 104), some (.ref t), some (.int av), some (.int c), some (.int i), c5] [] M v M' 0 0 → ∃ M1 c5, SQ M1 ∧ FZ noF lkW noO M M1 ∧ OTa A M M1 ∧ rN M1 128 A = rN M 128 A ∧ (∀ m, m < 7 → rN M1 (130 + m) A = 0) ∧ Ev none e 67 36 [some (.ref 104), some (.ref t), some (.int av), some (.int c), some (.int 0), c5] [] M1 v M' 0 0 := by
  intro n
  induction n generalizing M with
  | zero =>
    intro k i c5 hi hk h0 H
    rcases loo_10 hS ht H with ⟨_, H⟩ | ⟨a1, _⟩
    · exact ⟨M, c5, hS, FZ.refl M, OTa.refl, rfl, fun m hm => h0 m (by omega), H⟩
    · have e7 : (7 : Int32).toInt = 7 := rfl
      exact absurd (Int32.le_iff_toInt_le.mpr (by omega)) a1
  | succ n ih =>
    intro k i c5 hi hk h0 H
    have e7 : (7 : Int32).toInt = 7 := rfl
    rcases loo_10 hS ht H with ⟨a1, _⟩ | ⟨_, _, _, H⟩
    · have := Int32.le_iff_toInt_le.mp a1
      omega
    · rw [oI_sum hX hi (by omega), cl_n hA] at H
      have hF : FZ noF lkW noO M (wI M (130 + k) A 0) := lk_wI2 (by omega)
      have hX1 : SXc (wI M (130 + k) A 0) := fun m hm => by rw [hF.on (fun q => q)]; exact hX m hm
      obtain ⟨M1, c5', s1, s2, s3, s4, s5, s6⟩ := ih hX1 hS.ki (k + 1) (i + 1) c5 (by rw [i32_p1 (by omega)]; omega) (by omega) (fun m hm => by
        by_cases hmk : m = k
        · subst hmk
          exact rN_wI_eq (by rw [row130 hS.1 (by omega)]; exact hA2)
        · rw [rN_wI_ne (fun q => hmk (by omega))]
          exact h0 m (by omega)) H
      refine ⟨M1, c5', s1, hF.trans s2, OTa.wI.trans s3, ?_, s5, s6⟩
      rw [s4, rN_wI_ne (fun q => absurd q.1 (by omega))]
theorem loo_l (h : Nat) (hh : h < 6) (hc : inC P c) {av : Int32} {A : Nat} (hA : av.toInt = (A : Int)) (hA2 : A < 1536) : ∀ (r : List Lnq) (M : Mem) (j : Nat) (i : Int32) (c5 : Option Value) (b : Bool) (s : Int32 → Int32), CTX L T P M → t = oN M 109 h → (T (h + 1)).2.drop j = r → i.toInt = (j : Int) → j ≤ (T (h + 1)).2.length → rN M 128 A = bI b → SUa A s M → Ev none e 67 36 [some (.ref 104), some (.ref t), some (.int av), some (.int c), some (.int i), c5] [] M v M' 0 0 → v = none ∧ SQ M' ∧ FZ noF lkW noO M M' ∧ OTa A M M' ∧ rN M' 128 A = bI (b || nevL (T 0) P (T (h + 1)) c r) ∧ SUa A (fun m => sumL (T 0) P (T (h + 1)) c m r (s m)) M' := by
  intro r
  induction r with
  | nil =>
    intro M j i c5 b s hX ht hd hi hj hb hs H
    have hS := hX.1.1
    obtain ⟨hq, hw⟩ := hX.2.2.2.2.2.2.1 h hh
    rw [← ht] at hq
    have htt : gNth sT t = some 28 := by rw [ht]; exact hab_t hS.1 hh
    have h1 := dr_nil hd
    have l1 := hq.1.1
    have l2 := hq.1.2.1
    rcases loo_36 hS htt H with ⟨_, h2, h3⟩ | ⟨a1, _⟩ | ⟨a1, _⟩ | ⟨a1, _⟩
    · subst h3
      refine ⟨h2, hS, FZ.refl _, OTa.refl, ?_, hs⟩
      rw [hb]
      show bI b = bI (b || false)
      rw [Bool.or_false]
    all_goals exact absurd (Int32.le_iff_toInt_le.mpr (by omega)) a1
  | cons l r ih =>
    intro M j i c5 b s hX ht hd hi hj hb hs H
    have hS := hX.1.1
    obtain ⟨hq, hw⟩ := hX.2.2.2.2.2.2.1 h hh
    rw [← ht] at hq
    have htt : gNth sT t = some 28 := by rw [ht]; exact hab_t hS.1 hh
    have hn := hX.2.2.1 c hc
    obtain ⟨h1, h2, h3⟩ := ln_at hd
    have l1 := hq.1.1
    have l2 := hq.1.2.1
    obtain ⟨k1, k2, k3, _⟩ := hq.1.2.2 j l h1
    rw [← rI_n hi] at k1 k2 k3
    have hi1 : (i + 1).toInt = ((j + 1 : Nat) : Int) := by
      rw [i32_p1 (by omega)]
      omega
    have hnu := (hw l (List.mem_of_getElem? h1)).1
    have nev : ∀ x : Bool, (l.1 = 6 ∧ hldP (T 0) P (T (h + 1)) l c = true ↔ x = true) → nevL (T 0) P (T (h + 1)) c (l :: r) = (x || nevL (T 0) P (T (h + 1)) c r) := fun x hx => by
      show (if l.1 = 6 ∧ hldP (T 0) P (T (h + 1)) l c = true then true else nevL (T 0) P (T (h + 1)) c r) = _
      cases x with
      | true => rw [if_pos (hx.mpr rfl)]; rfl
      | false => rw [if_neg (fun q => absurd (hx.mp q) (by decide))]; rfl
    have next : ∀ (c5 : Option Value), ¬ (l.1 = 6 ∧ hldP (T 0) P (T (h + 1)) l c = true) → ¬ (l.1 = 5 ∧ hldP (T 0) P (T (h + 1)) l c = true) → Ev none e 67 36 [some (.ref 104), some (.ref t), some (.int av), some (.int c), some (.int (i + 1)), c5] [] M v M' 0 0 → v = none ∧ SQ M' ∧ FZ noF lkW noO M M' ∧ OTa A M M' ∧ rN M' 128 A = bI (b || nevL (T 0) P (T (h + 1)) c (l :: r)) ∧ SUa A (fun m => sumL (T 0) P (T (h + 1)) c m (l :: r) (s m)) M' := fun c5 n6 n5 H => by
      obtain ⟨r1, r2, r3, r4, r5, r6⟩ := ih M (j + 1) (i + 1) c5 b s hX ht h2 hi1 (by omega) hb hs H
      refine ⟨r1, r2, r3, r4, ?_, fun m hm => ?_⟩
      · rw [nev false ⟨fun q => absurd q n6, fun q => by cases q⟩]
        exact r5
      · rw [r6 m hm]
        show _ = sumL (T 0) P (T (h + 1)) c (nI m) r (if l.1 = 5 ∧ hldP (T 0) P (T (h + 1)) l c = true ∧ l.2.1 = nI m then s (nI m) + l.2.2.1 else s (nI m))
        rw [if_neg (fun q => n5 ⟨q.1, q.2.1⟩)]
    have mid : (l.1 = 5 ∨ l.1 = 6) → ∀ (c5 : Option Value), Ev none e 67 88 [some (.ref 104), some (.ref t), some (.int av), some (.int c), some (.int i), c5] [.int (bI (hldP (T 0) P (T (h + 1)) l c))] M v M' 0 0 → v = none ∧ SQ M' ∧ FZ noF lkW noO M M' ∧ OTa A M M' ∧ rN M' 128 A = bI (b || nevL (T 0) P (T (h + 1)) c (l :: r)) ∧ SUa A (fun m => sumL (T 0) P (T (h + 1)) c m (l :: r) (s m)) M' := fun h56 c5 H => by
      rcases loo_88 hS htt H with ⟨a1, H⟩ | ⟨a1, a2, _, _, H⟩ | ⟨a1, a2, _, _, _, _, _, _, H⟩
      · rw [bI_0] at a1
        exact next c5 (fun q => by rw [a1] at q; cases q.2) (fun q => by rw [a1] at q; cases q.2) H
      · have hh1 : hldP (T 0) P (T (h + 1)) l c = true := by
          cases hq : hldP (T 0) P (T (h + 1)) l c with
          | true => rfl
          | false => exact absurd (bI_0.mpr hq) a1
        rw [k1] at a2
        rw [cl_n hA] at H
        have hF : FZ noF lkW noO M (wI M 128 A 1) := lk_wI1
        obtain ⟨r1, r2, r3, r4, r5, r6⟩ := ih (wI M 128 A 1) (j + 1) (i + 1) c5 true s (hX.lk hS.ki hF) (by rw [hF.on (fun q => q)]; exact ht) h2 hi1 (by omega) (rN_wI_eq (by rw [row128 hS.1]; exact hA2)) (fun m hm => by rw [rN_wI_ne (fun q => absurd q.1 (by omega))]; exact hs m hm) H
        refine ⟨r1, r2, hF.trans r3, OTa.wI.trans r4, ?_, fun m hm => ?_⟩
        · rw [nev true ⟨fun _ => rfl, fun _ => ⟨a2, hh1⟩⟩, r5]
          show bI (true || _) = bI (b || (true || _))
          rw [Bool.true_or, Bool.or_true]
        · rw [r6 m hm]
          show _ = sumL (T 0) P (T (h + 1)) c (nI m) r (if l.1 = 5 ∧ hldP (T 0) P (T (h + 1)) l c = true ∧ l.2.1 = nI m then s (nI m) + l.2.2.1 else s (nI m))
          rw [if_neg (fun q => by rw [a2] at q; exact absurd q.1 (by decide))]
      · have hh1 : hldP (T 0) P (T (h + 1)) l c = true := by
          cases hq : hldP (T 0) P (T (h + 1)) l c with
          | true => rfl
          | false => exact absurd (bI_0.mpr hq) a1
        rw [k1] at a2
        have h5 : l.1 = 5 := h56.elim id (fun q => absurd q a2)
        rw [k2, k3] at H
        obtain ⟨m0, m1⟩ := (hnu.2.2.1 h5).2
        obtain ⟨km, km1, km2⟩ := i32_in (k := 6) m0 m1 (by decide)
        have km3 : l.2.1.toInt = (km : Int) := by rw [km2]; exact nI_toInt (by omega)
        rw [oI_sum hX.2.2.2.1 km3 (by omega), rI_n hA, cl_n hA, hs km (by omega)] at H
        have hF : FZ noF lkW noO M (wI M (130 + km) A (s (nI km) + l.2.2.1)) := lk_wI2 (by omega)
        obtain ⟨r1, r2, r3, r4, r5, r6⟩ := ih (wI M (130 + km) A (s (nI km) + l.2.2.1)) (j + 1) (i + 1) c5 b (fun k => if l.2.1 = k then s k + l.2.2.1 else s k) (hX.lk hS.ki hF) (by rw [hF.on (fun q => q)]; exact ht) h2 hi1 (by omega) (by rw [rN_wI_ne (fun q => absurd q.1 (by omega))]; exact hb) (fun m hm => by
          by_cases hmk : m = km
          · subst hmk
            rw [rN_wI_eq (by rw [row130 hS.1 hm]; exact hA2)]
            dsimp only
            rw [if_pos km2]
          · rw [rN_wI_ne (fun q => hmk (by omega))]
            dsimp only
            rw [if_neg (fun q => hmk (by
              have q2 := congrArg Int32.toInt q
              rw [km3, nI_toInt (by omega)] at q2
              omega))]
            exact hs m hm) H
        refine ⟨r1, r2, hF.trans r3, OTa.wI.trans r4, ?_, fun m hm => ?_⟩
        · rw [nev false ⟨fun q => absurd q.1 a2, fun q => by cases q⟩]
          exact r5
        · rw [r6 m hm]
          show _ = sumL (T 0) P (T (h + 1)) c (nI m) r (if l.1 = 5 ∧ hldP (T 0) P (T (h + 1)) l c = true ∧ l.2.1 = nI m then s (nI m) + l.2.2.1 else s (nI m))
          dsimp only
          by_cases hm2 : l.2.1 = nI m
          · rw [if_pos hm2, if_pos ⟨h5, hh1, hm2⟩]
          · rw [if_neg hm2, if_neg (fun q => hm2 q.2.2)]
    rcases loo_36 hS htt H with ⟨a1, _⟩ | ⟨_, a2, _, e1, v1, M1, rfl, H1, H⟩ | ⟨_, a2, a3, _, _, e1, v1, M1, rfl, H1, H⟩ | ⟨_, a2, a3, _, _, H⟩
    · have := Int32.le_iff_toInt_le.mp a1
      omega
    · rw [k1] at a2
      obtain ⟨rfl, rfl⟩ := holds_ok hX.1 htt hq hw hc hn hi h1 H1
      exact mid (Or.inl a2) _ H
    · rw [k1] at a3
      obtain ⟨rfl, rfl⟩ := holds_ok hX.1 htt hq hw hc hn hi h1 H1
      exact mid (Or.inr a3) _ H
    · rw [k1] at a2 a3
      exact next _ (fun q => a3 q.1) (fun q => a2 q.1) H
theorem look_ok (hX : CTX L T P M) {h : Nat} (hh : h < 6) (hc : inC P c) {av : Int32} (hA : av.toInt = (ixA h c : Int)) (H : Ev none e 67 0 [some (.ref 104), some (.ref (oN M 109 h)), some (.int av), some (.int c), none, none] [] M v M' 0 0) : v = none ∧ SQ M' ∧ FZ noF lkW noO M M' ∧ OTa (ixA h c) M M' ∧ OKv T P M' h c := by
  have hS := hX.1.1
  have htt := hab_t hS.1 hh
  obtain ⟨hr, H⟩ := loo_0 hS htt H
  have hA2 : ixA h c < 1536 := by omega
  rw [cl_n hA] at H
  have hF : FZ noF lkW noO M (wI M 128 (ixA h c) 0) := lk_wI1
  obtain ⟨M1, c5, s1, s2, s3, s4, s5, H⟩ := loo_z (fun m hm => by rw [hF.on (fun q => q)]; exact hX.2.2.2.1 m hm) hS.ki htt hA hA2 7 0 0 none rfl (by decide) (fun m hm => absurd hm (Nat.not_lt_zero m)) H
  have hF2 := hF.trans s2
  obtain ⟨r1, r2, r3, r4, r5, r6⟩ := loo_l h hh hc hA hA2 (T (h + 1)).2 M1 0 0 c5 false (fun _ => 0) (hX.lk s1 hF2) (by rw [hF2.on (fun q => q)]) rfl rfl (Nat.zero_le _) (by rw [s4, rN_wI_eq (by rw [row128 hS.1]; exact hA2)]; rfl) (fun m hm => s5 m hm) H
  refine ⟨r1, r2, hF2.trans r3, (OTa.wI.trans s3).trans r4, ?_, fun m hm => r6 m hm⟩
  rw [r5, Bool.false_or]
theorem VC.look {h : Nat} {c : Int32} (hw : wh4 P) (hV : VC T P M) (hO : OTa (ixA h c) M M') (hK : OKv T P M' h c) (hc : inC P c) (hh : h < 6) : VC T P M' := by
  intro h2 c2 hh2 hc2
  obtain ⟨_, c256, _⟩ := cls_int hw
  have b1 := hc.2
  have b2 := hc2.2
  by_cases hx : ixA h2 c2 = ixA h c
  · unfold ixA at hx
    have e1 : h2 = h := by omega
    have e2 : c2 = c := by
      refine Int32.toInt_inj.mp ?_
      have := Int.toNat_of_nonneg hc.1
      have := Int.toNat_of_nonneg hc2.1
      omega
    subst e1 e2
    exact Or.inr hK
  · rcases hV h2 c2 hh2 hc2 with q | ⟨q1, q2⟩
    · refine Or.inl ?_
      rw [hO 128 _ (Or.inl rfl) hx]
      exact q
    · refine Or.inr ⟨?_, fun m hm => ?_⟩
      · rw [hO 128 _ (Or.inl rfl) hx]
        exact q1
      · rw [hO (130 + m) _ (Or.inr ⟨by omega, by omega⟩) hx]
        exact q2 m hm
theorem ix_av {h : Nat} {ha : Int32} (hw : wh4 P) (hc : inC P c) (hh : ha.toInt = (h : Int)) (h6 : h < 6) : (256 * ha + c).toInt = (ixA h c : Int) ∧ (256 * ha + c) - (256 * ha + c) / 256 * 256 = c := by
  obtain ⟨c0, _, c2⟩ := hc.lt hw
  have e256 : (256 : Int32).toInt = 256 := rfl
  have e0 : (256 : Int32).toInt * ha.toInt = 256 * (h : Int) := by rw [e256, hh]
  have e1 : (256 * ha).toInt = 256 * (h : Int) := by rw [i32_mul (by omega) (by omega), e0]
  have e2 : (256 * ha + c).toInt = 256 * (h : Int) + c.toInt := by rw [i32_add (by omega) (by omega), e1]
  have e3 : ((256 * ha + c) / 256).toInt = (h : Int) := by
    rw [i32_div (by decide), e256, e2, Int.tdiv_eq_ediv_of_nonneg (by omega)]
    omega
  have e4 : ((256 * ha + c) / 256 * 256).toInt = 256 * (h : Int) := by
    rw [i32_mul (by rw [e3, e256]; omega) (by rw [e3, e256]; omega), e3, e256]
    omega
  refine ⟨?_, Int32.toInt_inj.mp ?_⟩
  · rw [e2]
    unfold ixA
    have := Int.toNat_of_nonneg c0
    omega
  · rw [i32_sub (by rw [e2, e4]; omega) (by rw [e2, e4]; omega), e2, e4]
    omega
theorem abs_ok (x : Int32) : (if 0 ≤ x then x else 0 - x) = absI x := by
  unfold absI
  by_cases h : x < 0
  · rw [if_pos h, if_neg (fun q => by rw [i32_z] at h; have := Int32.le_iff_toInt_le.mp q; have e : (0 : Int32).toInt = 0 := rfl; omega)]
    grind
  · rw [if_neg h, if_pos (Int32.le_iff_toInt_le.mpr (by rw [i32_z] at h; have e : (0 : Int32).toInt = 0 := rfl; omega))]
theorem grn_a {bd we : Int32} (b1 : 1 ≤ bd.toInt) (b2 : bd.toInt ≤ 999) (w0 : 0 ≤ we.toInt) : (if 0 < bd - we then bd - we else 0) / 10 = (if ¬ bd ≤ we then (bd - we) / 10 else 0) := by
  have hwe := (i32_lt we).2
  have e0 : (0 : Int32).toInt = 0 := rfl
  have e1 : (bd - we).toInt = bd.toInt - we.toInt := i32_sub (by omega) (by omega)
  by_cases h : bd ≤ we
  · have h1 := Int32.le_iff_toInt_le.mp h
    rw [if_neg (by rw [Int32.lt_iff_toInt_lt]; omega), if_neg (fun q => q h)]
    rfl
  · have h1 : ¬ bd.toInt ≤ we.toInt := fun q => h (Int32.le_iff_toInt_le.mpr q)
    rw [if_pos (by rw [Int32.lt_iff_toInt_lt]; omega), if_pos h]
theorem dst_ok (hX : CTX L T P M) (hc : inC P c) {go : Int32} (hg : inC P go) : G_4 M c go = dstP P c go := by
  obtain ⟨x1, y1, _⟩ := hX.2.2.2.2.1 c hc
  obtain ⟨x2, y2, _⟩ := hX.2.2.2.2.1 go hg
  unfold G_4 dstP
  rw [x1, y1, x2, y2, abs_ok, abs_ok]
  show 10 * (if acrP P c go < aloP P c go then aloP P c go else acrP P c go) + 4 * (if aloP P c go < acrP P c go then aloP P c go else acrP P c go) = _
  by_cases h : aloP P c go < acrP P c go
  · rw [if_pos h, if_pos h, if_neg (fun q => by rw [Int32.lt_iff_toInt_lt] at h q; omega)]
  · rw [if_neg h, if_neg h]
    by_cases h2 : acrP P c go < aloP P c go
    · rw [if_pos h2]
    · rw [if_neg h2]
      have : acrP P c go = aloP P c go := Int32.toInt_inj.mp (by rw [Int32.lt_iff_toInt_lt] at h h2; omega)
      rw [this]
theorem toP_rng {here goal : Int32} : ∀ (n : Nat) (d : Int32), 0 ≤ d.toInt → d.toInt + (n : Int) ≤ 1000 → toP P here goal n d = -1 ∨ 0 ≤ (toP P here goal n d).toInt := by
  intro n
  induction n with
  | zero => intro d _ _; exact Or.inl rfl
  | succ n ih =>
    intro d h0 h1
    unfold toP
    split
    · exact Or.inr h0
    · exact ih (d + 1) (by rw [i32_p1 (by omega)]; omega) (by rw [i32_p1 (by omega)]; omega)
/-- WHAT THE LINES ADD (w) -/
theorem weiw_ok {b : Nat} (hb0 : gNth sT b = some 21) (hX : CTX L T P M) {h : Nat} {ha : Int32} (hh : ha.toInt = (h : Int)) (h6 : h < 6) (hc : inC P c) (d0 : 0 ≤ d.toInt) (d1 : d.toInt < 8) (hK : OKv T P M h c) (hn : inC P (zI M b 0)) {al : Bool} (hal : zI M 104 8 = bI al) (hway : -1 ≤ (zI M b 4).toInt) {w : WC} (hw : w = (zI M b 0, w.2.1, zI M b 4, zI M b 3, al)) (H : Ev none e 68 0 [some (.ref 104), some (.ref b), some (.int (256 * ha + c)), some (.int d), some (.int (siQ (T (h + 1)))), none, none] [] M v M' 0 0) : M' = M ∧ v = some (.int (totP (meaQ (T 0) P (T (h + 1)) w c d) (fun m => sumL (T 0) P (T (h + 1)) c m (T (h + 1)).2 0))) := by
  obtain ⟨⟨hS, hL, hT, l1, l2, l3, hC⟩, hwh, hnn, hsx, hgr, ⟨htx, hlw⟩, hhb, hcr⟩ := id hX
  obtain ⟨f1, f2⟩ := ix_av hwh hc hh h6
  obtain ⟨n2, n3, n4, n5⟩ := hnn c hc
  have hlh := (hhb h h6).2
  have e0 : (0 : Int32).toInt = 0 := rfl
  have sv : ∀ m, m < 7 → rI M (oI M 129 (nI m)) (256 * ha + c) = sumL (T 0) P (T (h + 1)) c (nI m) (T (h + 1)).2 0 := fun m hm => by
    rw [oI_sum hsx (nI_toInt (by omega)) hm, rI_n f1]
    exact hK.2 m hm
  obtain ⟨s, es⟩ : ∃ s : Int32 → Int32, s = fun m => sumL (T 0) P (T (h + 1)) c m (T (h + 1)).2 0 := ⟨_, rfl⟩
  have sv : ∀ m, m < 7 → rI M (oI M 129 (nI m)) (256 * ha + c) = s (nI m) := fun m hm => by rw [es]; exact sv m hm
  have snn : ∀ m, 0 ≤ (s m).toInt := fun m => by
    rw [es]
    refine sumL_rng _ (fun l hl h5 => ?_) 0 (by decide) ?_
    · have := (hlh l hl).1
      exact ⟨this.1, (this.2.2.1 h5).1⟩
    · have := (hhb h h6).1.1.2.1
      omega
  rw [← es]
  obtain ⟨a, ea⟩ : ∃ a, a = meaQ (T 0) P (T (h + 1)) w c d := ⟨_, rfl⟩
  rw [← ea]
  have s0 := sv 0 (by decide)
  have s1 := sv 1 (by decide)
  have s2 := sv 2 (by decide)
  have s3 := sv 3 (by decide)
  have s4 := sv 4 (by decide)
  have s5 := sv 5 (by decide)
  have s6 := sv 6 (by decide)
  have r2 : ∀ c2, inC P c2 → rI M (L + 3) c2 = cE P 2 c2 := fun c2 hc2 => hC.at hc2 (f := 2) (by decide)
  have r3 : rI M (L + 4) c = cE P 3 c := hC.at hc (f := 3) (by decide)
  have r4 : rI M (L + 5) c = cE P 4 c := hC.at hc (f := 4) (by decide)
  obtain ⟨b1, b2⟩ := bd_rng hlw
  have z0 : ∀ m, s m ≤ 0 → s m = 0 := fun m q => Int32.toInt_inj.mp (by have := Int32.le_iff_toInt_le.mp q; have := snn m; omega)
  have a0 : a 0 = (if grnB P c = true ∧ ¬ bdQ (T 0) ≤ cE P 3 c then (bdQ (T 0) - cE P 3 c) / 10 else 0) := by rw [ea]; rfl
  have a1 : a 1 = cE P 4 c / 10 := by rw [ea]; rfl
  have a2 : a 2 = absI (cE P 2 c - cE P 2 (zI M b 0)) := by rw [ea, hw]; rfl
  have a3 : a 3 = (if al = true then 0 else crdP P c (P 157).toInt.toNat) := by rw [ea, hw]; rfl
  have a4 : a 4 = (if 0 ≤ zI M b 4 ∧ ¬ zI M b 4 = d then 1 else 0) := by rw [ea, hw]; rfl
  have a5 : a 5 = (if c = zI M b 3 then 1 else 0) := by rw [ea, hw]; rfl
  have a6 : a 6 = seeP (T 0) P d (siQ (T (h + 1))).toInt.toNat c 0 := by rw [ea]; rfl
  have st0 : ∃ wt, wt = s 0 * a 0 ∧ Ev none e 68 72 [some (.ref 104), some (.ref b), some (.int (256 * ha + c)), some (.int d), some (.int (siQ (T (h + 1)))), some (.int c), some (.int wt)] [] M v M' 0 0 := by
    rcases weiw_0 hS hb0 H with ⟨q1, _, _, H⟩ | ⟨_, q1, _, _, H⟩ | ⟨_, q1, _, _, _, _, _, H⟩
    · rw [f2] at H
      rw [show rI M (oI M 129 0) (256 * ha + c) = s 0 from s0] at q1
      refine ⟨_, ?_, H⟩
      rw [z0 0 q1]
      grind
    · rw [f2] at H q1
      rw [hL, g8_ok hX.1 hc, bI_0] at q1
      refine ⟨_, ?_, H⟩
      rw [a0, if_neg (fun q => by rw [q1] at q; cases q.1)]
      grind
    · rw [f2] at H q1
      rw [hL, g8_ok hX.1 hc, bI_0, Bool.not_eq_false] at q1
      refine ⟨_, ?_, H⟩
      rw [hL, r3, l1, grn_a b1 b2 n3, a0, show rI M (oI M 129 0) (256 * ha + c) = s 0 from s0]
      by_cases hb : bdQ (T 0) ≤ cE P 3 c
      · rw [if_neg (fun q => q hb), if_neg (fun q => q.2 hb)]
        grind
      · rw [if_pos hb, if_pos ⟨q1, hb⟩]
        grind
  obtain ⟨w0, ew0, H⟩ := st0
  obtain ⟨_, _, _, _, _, _, _, H⟩ := weiw_72 hS hb0 H
  rw [hL, r4, r2 c hc, r2 _ hn, abs_ok, ← a1, ← a2, show rI M (oI M 129 1) (256 * ha + c) = s 1 from s1, show rI M (oI M 129 2) (256 * ha + c) = s 2 from s2] at H
  have st3 : ∃ wt, wt = w0 + s 1 * a 1 + s 2 * a 2 + s 3 * a 3 ∧ Ev none e 68 174 [some (.ref 104), some (.ref b), some (.int (256 * ha + c)), some (.int d), some (.int (siQ (T (h + 1)))), some (.int c), some (.int wt)] [] M v M' 0 0 := by
    rcases weiw_139 hS hb0 H with ⟨q1, _, _, _, H⟩ | ⟨q1, H⟩
    · rw [hal, bI_0] at q1
      refine ⟨_, ?_, H⟩
      rw [hL, hcr c hc, a3, q1, if_neg (by decide), show rI M (oI M 129 3) (256 * ha + c) = s 3 from s3]
    · rw [hal, bI_0, Bool.not_eq_false] at q1
      refine ⟨_, ?_, H⟩
      rw [a3, q1, if_pos rfl]
      grind
  obtain ⟨w3, ew3, H⟩ := st3
  have st4 : ∃ wt, wt = w3 + s 4 * a 4 ∧ Ev none e 68 207 [some (.ref 104), some (.ref b), some (.int (256 * ha + c)), some (.int d), some (.int (siQ (T (h + 1)))), some (.int c), some (.int wt)] [] M v M' 0 0 := by
    rcases weiw_174 hS hb0 H with ⟨q1, H⟩ | ⟨_, q1, H⟩ | ⟨q1, q2, _, _, H⟩
    · refine ⟨_, ?_, H⟩
      rw [a4, if_neg (fun q => by rw [q1] at q; exact absurd q.1 (by decide))]
      grind
    · refine ⟨_, ?_, H⟩
      rw [a4, if_neg (fun q => q.2 q1)]
      grind
    · refine ⟨_, ?_, H⟩
      have q3 : 0 ≤ zI M b 4 := Int32.le_iff_toInt_le.mpr (by
        have e1 : (-1 : Int32).toInt = -1 := rfl
        have : (zI M b 4).toInt ≠ -1 := fun q => q1 (Int32.toInt_inj.mp (q.trans e1.symm))
        omega)
      rw [a4, if_pos ⟨q3, q2⟩, show rI M (oI M 129 4) (256 * ha + c) = s 4 from s4]
      grind
  obtain ⟨w4, ew4, H⟩ := st4
  have st5 : ∃ wt, wt = w4 + s 5 * a 5 ∧ Ev none e 68 233 [some (.ref 104), some (.ref b), some (.int (256 * ha + c)), some (.int d), some (.int (siQ (T (h + 1)))), some (.int c), some (.int wt)] [] M v M' 0 0 := by
    rcases weiw_207 hS hb0 H with ⟨q1, _, _, H⟩ | ⟨q1, H⟩
    · refine ⟨_, ?_, H⟩
      rw [a5, if_pos q1.symm, show rI M (oI M 129 5) (256 * ha + c) = s 5 from s5]
      grind
    · refine ⟨_, ?_, H⟩
      rw [a5, if_neg (fun q => q1 q.symm)]
      grind
  obtain ⟨w5, ew5, H⟩ := st5
  have fin : ∀ x, x = w5 - s 6 * a 6 → x = totP a s := fun x hx => by
    rw [hx, ew5, ew4, ew3, ew0]
    unfold totP
    rfl
  rcases weiw_233 hS hb0 H with ⟨q1, _, _, H⟩ | ⟨_, _, _, _, _, e1, v1, M1, rfl, H1, H⟩
  · rw [show rI M (oI M 129 6) (256 * ha + c) = s 6 from s6] at q1
    obtain ⟨h1, h2⟩ := weiw_269 hS hb0 H
    refine ⟨h2, ?_⟩
    rw [h1, fin w5 (by rw [z0 6 q1]; grind)]
  · obtain ⟨rfl, rfl⟩ := wha_ok hX d0 d1 hc (si_rng hlh).1 H1
    obtain ⟨h1, h2⟩ := weiw_265 hS hb0 H
    refine ⟨h2, ?_⟩
    have s6' : rI M1 (oI M1 129 6) (256 * ha + c) = s 6 := s6
    rw [s6', ← a6] at h1
    rw [h1, fin _ rfl]
/-- WHAT THE LINES ADD (s) -/
theorem weis_ok (hX : CTX L T P M) {h : Nat} {ha : Int32} (hh : ha.toInt = (h : Int)) (h6 : h < 6) (hc : inC P c) (d0 : 0 ≤ d.toInt) (d1 : d.toInt < 8) (hK : OKv T P M h c) (hn : inC P (zI M 137 0)) {al : Bool} (hal : zI M 104 8 = bI al) (hway : -1 ≤ (zI M 137 4).toInt) {w : WC} (hw : w = (zI M 137 0, w.2.1, zI M 137 4, zI M 137 3, al)) (H : Ev none e 68 0 [some (.ref 104), some (.ref 137), some (.int (256 * ha + c)), some (.int d), some (.int (siQ (T (h + 1)))), none, none] [] M v M' 0 0) : M' = M ∧ v = some (.int (totP (meaQ (T 0) P (T (h + 1)) w c d) (fun m => sumL (T 0) P (T (h + 1)) c m (T (h + 1)).2 0))) := by
  obtain ⟨⟨hS, hL, hT, l1, l2, l3, hC⟩, hwh, hnn, hsx, hgr, ⟨htx, hlw⟩, hhb, hcr⟩ := id hX
  obtain ⟨f1, f2⟩ := ix_av hwh hc hh h6
  obtain ⟨n2, n3, n4, n5⟩ := hnn c hc
  have hlh := (hhb h h6).2
  have e0 : (0 : Int32).toInt = 0 := rfl
  have sv : ∀ m, m < 7 → rI M (oI M 129 (nI m)) (256 * ha + c) = sumL (T 0) P (T (h + 1)) c (nI m) (T (h + 1)).2 0 := fun m hm => by
    rw [oI_sum hsx (nI_toInt (by omega)) hm, rI_n f1]
    exact hK.2 m hm
  obtain ⟨s, es⟩ : ∃ s : Int32 → Int32, s = fun m => sumL (T 0) P (T (h + 1)) c m (T (h + 1)).2 0 := ⟨_, rfl⟩
  have sv : ∀ m, m < 7 → rI M (oI M 129 (nI m)) (256 * ha + c) = s (nI m) := fun m hm => by rw [es]; exact sv m hm
  have snn : ∀ m, 0 ≤ (s m).toInt := fun m => by
    rw [es]
    refine sumL_rng _ (fun l hl h5 => ?_) 0 (by decide) ?_
    · have := (hlh l hl).1
      exact ⟨this.1, (this.2.2.1 h5).1⟩
    · have := (hhb h h6).1.1.2.1
      omega
  rw [← es]
  obtain ⟨a, ea⟩ : ∃ a, a = meaQ (T 0) P (T (h + 1)) w c d := ⟨_, rfl⟩
  rw [← ea]
  have s0 := sv 0 (by decide)
  have s1 := sv 1 (by decide)
  have s2 := sv 2 (by decide)
  have s3 := sv 3 (by decide)
  have s4 := sv 4 (by decide)
  have s5 := sv 5 (by decide)
  have s6 := sv 6 (by decide)
  have r2 : ∀ c2, inC P c2 → rI M (L + 3) c2 = cE P 2 c2 := fun c2 hc2 => hC.at hc2 (f := 2) (by decide)
  have r3 : rI M (L + 4) c = cE P 3 c := hC.at hc (f := 3) (by decide)
  have r4 : rI M (L + 5) c = cE P 4 c := hC.at hc (f := 4) (by decide)
  obtain ⟨b1, b2⟩ := bd_rng hlw
  have z0 : ∀ m, s m ≤ 0 → s m = 0 := fun m q => Int32.toInt_inj.mp (by have := Int32.le_iff_toInt_le.mp q; have := snn m; omega)
  have a0 : a 0 = (if grnB P c = true ∧ ¬ bdQ (T 0) ≤ cE P 3 c then (bdQ (T 0) - cE P 3 c) / 10 else 0) := by rw [ea]; rfl
  have a1 : a 1 = cE P 4 c / 10 := by rw [ea]; rfl
  have a2 : a 2 = absI (cE P 2 c - cE P 2 (zI M 137 0)) := by rw [ea, hw]; rfl
  have a3 : a 3 = (if al = true then 0 else crdP P c (P 157).toInt.toNat) := by rw [ea, hw]; rfl
  have a4 : a 4 = (if 0 ≤ zI M 137 4 ∧ ¬ zI M 137 4 = d then 1 else 0) := by rw [ea, hw]; rfl
  have a5 : a 5 = (if c = zI M 137 3 then 1 else 0) := by rw [ea, hw]; rfl
  have a6 : a 6 = seeP (T 0) P d (siQ (T (h + 1))).toInt.toNat c 0 := by rw [ea]; rfl
  have st0 : ∃ wt, wt = s 0 * a 0 ∧ Ev none e 68 72 [some (.ref 104), some (.ref 137), some (.int (256 * ha + c)), some (.int d), some (.int (siQ (T (h + 1)))), some (.int c), some (.int wt)] [] M v M' 0 0 := by
    rcases weis_0 hS H with ⟨q1, _, _, H⟩ | ⟨_, q1, _, _, H⟩ | ⟨_, q1, _, _, _, _, _, H⟩
    · rw [f2] at H
      rw [show rI M (oI M 129 0) (256 * ha + c) = s 0 from s0] at q1
      refine ⟨_, ?_, H⟩
      rw [z0 0 q1]
      grind
    · rw [f2] at H q1
      rw [hL, g8_ok hX.1 hc, bI_0] at q1
      refine ⟨_, ?_, H⟩
      rw [a0, if_neg (fun q => by rw [q1] at q; cases q.1)]
      grind
    · rw [f2] at H q1
      rw [hL, g8_ok hX.1 hc, bI_0, Bool.not_eq_false] at q1
      refine ⟨_, ?_, H⟩
      rw [hL, r3, l1, grn_a b1 b2 n3, a0, show rI M (oI M 129 0) (256 * ha + c) = s 0 from s0]
      by_cases hb : bdQ (T 0) ≤ cE P 3 c
      · rw [if_neg (fun q => q hb), if_neg (fun q => q.2 hb)]
        grind
      · rw [if_pos hb, if_pos ⟨q1, hb⟩]
        grind
  obtain ⟨w0, ew0, H⟩ := st0
  obtain ⟨_, _, _, _, _, _, _, H⟩ := weis_72 hS H
  rw [hL, r4, r2 c hc, r2 _ hn, abs_ok, ← a1, ← a2, show rI M (oI M 129 1) (256 * ha + c) = s 1 from s1, show rI M (oI M 129 2) (256 * ha + c) = s 2 from s2] at H
  have st3 : ∃ wt, wt = w0 + s 1 * a 1 + s 2 * a 2 + s 3 * a 3 ∧ Ev none e 68 174 [some (.ref 104), some (.ref 137), some (.int (256 * ha + c)), some (.int d), some (.int (siQ (T (h + 1)))), some (.int c), some (.int wt)] [] M v M' 0 0 := by
    rcases weis_139 hS H with ⟨q1, _, _, _, H⟩ | ⟨q1, H⟩
    · rw [hal, bI_0] at q1
      refine ⟨_, ?_, H⟩
      rw [hL, hcr c hc, a3, q1, if_neg (by decide), show rI M (oI M 129 3) (256 * ha + c) = s 3 from s3]
    · rw [hal, bI_0, Bool.not_eq_false] at q1
      refine ⟨_, ?_, H⟩
      rw [a3, q1, if_pos rfl]
      grind
  obtain ⟨w3, ew3, H⟩ := st3
  have st4 : ∃ wt, wt = w3 + s 4 * a 4 ∧ Ev none e 68 207 [some (.ref 104), some (.ref 137), some (.int (256 * ha + c)), some (.int d), some (.int (siQ (T (h + 1)))), some (.int c), some (.int wt)] [] M v M' 0 0 := by
    rcases weis_174 hS H with ⟨q1, H⟩ | ⟨_, q1, H⟩ | ⟨q1, q2, _, _, H⟩
    · refine ⟨_, ?_, H⟩
      rw [a4, if_neg (fun q => by rw [q1] at q; exact absurd q.1 (by decide))]
      grind
    · refine ⟨_, ?_, H⟩
      rw [a4, if_neg (fun q => q.2 q1)]
      grind
    · refine ⟨_, ?_, H⟩
      have q3 : 0 ≤ zI M 137 4 := Int32.le_iff_toInt_le.mpr (by
        have e1 : (-1 : Int32).toInt = -1 := rfl
        have : (zI M 137 4).toInt ≠ -1 := fun q => q1 (Int32.toInt_inj.mp (q.trans e1.symm))
        omega)
      rw [a4, if_pos ⟨q3, q2⟩, show rI M (oI M 129 4) (256 * ha + c) = s 4 from s4]
      grind
  obtain ⟨w4, ew4, H⟩ := st4
  have st5 : ∃ wt, wt = w4 + s 5 * a 5 ∧ Ev none e 68 233 [some (.ref 104), some (.ref 137), some (.int (256 * ha + c)), some (.int d), some (.int (siQ (T (h + 1)))), some (.int c), some (.int wt)] [] M v M' 0 0 := by
    rcases weis_207 hS H with ⟨q1, _, _, H⟩ | ⟨q1, H⟩
    · refine ⟨_, ?_, H⟩
      rw [a5, if_pos q1.symm, show rI M (oI M 129 5) (256 * ha + c) = s 5 from s5]
      grind
    · refine ⟨_, ?_, H⟩
      rw [a5, if_neg (fun q => q1 q.symm)]
      grind
  obtain ⟨w5, ew5, H⟩ := st5
  have fin : ∀ x, x = w5 - s 6 * a 6 → x = totP a s := fun x hx => by
    rw [hx, ew5, ew4, ew3, ew0]
    unfold totP
    rfl
  rcases weis_233 hS H with ⟨q1, _, _, H⟩ | ⟨_, _, _, _, _, e1, v1, M1, rfl, H1, H⟩
  · rw [show rI M (oI M 129 6) (256 * ha + c) = s 6 from s6] at q1
    obtain ⟨h1, h2⟩ := weis_269 hS H
    refine ⟨h2, ?_⟩
    rw [h1, fin w5 (by rw [z0 6 q1]; grind)]
  · obtain ⟨rfl, rfl⟩ := wha_ok hX d0 d1 hc (si_rng hlh).1 H1
    obtain ⟨h1, h2⟩ := weis_265 hS H
    refine ⟨h2, ?_⟩
    have s6' : rI M1 (oI M1 129 6) (256 * ha + c) = s 6 := s6
    rw [s6', ← a6] at h1
    rw [h1, fin _ rfl]
/-- WHERE A WALKER GOES (w) -/
theorem wtow_loop (hX : CTX L T P M) {here go : Int32} (hc : inC P here) : ∀ (n k : Nat) (d : Int32), d.toInt = (k : Int) → k + n = 8 → Ev none e 3 2 [some (.ref 105), some (.int here), some (.int go), some (.int d)] [] M v M' 0 0 → M' = M ∧ v = some (.int (toP P here go n d)) := by
  have hS := hX.1.1
  have e8 : (8 : Int32).toInt = 8 := rfl
  intro n
  induction n with
  | zero =>
    intro k d hd hk H
    rcases wto_2 hS H with ⟨_, h1, h2⟩ | ⟨a1, _⟩ | ⟨a1, _⟩
    · exact ⟨h2, h1⟩
    all_goals exact absurd (Int32.le_iff_toInt_le.mpr (by omega)) a1
  | succ n ih =>
    intro k d hd hk H
    have hb := (hX.2.2.2.2.1 here hc).2.2 d (by omega) (by omega)
    unfold toP
    rcases wto_2 hS H with ⟨a1, _⟩ | ⟨_, a2, _, h1, h2⟩ | ⟨_, a2, _, H⟩
    · have := Int32.le_iff_toInt_le.mp a1
      omega
    · rw [hb] at a2
      rw [if_pos a2]
      exact ⟨h2, h1⟩
    · rw [hb] at a2
      rw [if_neg a2]
      exact ih (k + 1) (d + 1) (by rw [i32_p1 (by omega)]; omega) (by omega) H
theorem chow_loop {b : Nat} (hb0 : gNth sT b = some 21) {h : Nat} {ha go : Int32} (hh : ha.toInt = (h : Int)) (h6 : h < 6) (hgo : inC P go) {al : Bool} {w : WC} : ∀ (n k : Nat) (M : Mem) (be le d : Int32) (c7 c8 c9 : Option Value), CTX L T P M → VC T P M → inC P (zI M b 0) → zI M 104 8 = bI al → -1 ≤ (zI M b 4).toInt → w = (zI M b 0, go, zI M b 4, zI M b 3, al) → d.toInt = (k : Int) → k + n = 8 → -1 ≤ be.toInt → Ev none e 66 29 [some (.ref 104), some (.ref b), some (.int go), some (.int ha), some (.int be), some (.int le), some (.int d), c7, c8, c9] [] M v M' 0 0 → v = some (.int (bstP (T 0) P (T (h + 1)) w n d be le)) ∧ SQ M' ∧ FZ noF lkW noO M M' ∧ VC T P M' := by
  have e8 : (8 : Int32).toInt = 8 := rfl
  have e0 : (0 : Int32).toInt = 0 := rfl
  have em : (-1 : Int32).toInt = -1 := rfl
  intro n
  induction n with
  | zero =>
    intro k M be le d c7 c8 c9 hX hV hi hal hwy hw hd hk hbe H
    have hS := hX.1.1
    rcases chow_29 hS hb0 H with ⟨_, h1, h2⟩ | ⟨a1, _⟩ | ⟨a1, _⟩ | ⟨a1, _⟩ | ⟨a1, _⟩
    · subst h2
      exact ⟨h1, hS, FZ.refl _, hV⟩
    all_goals exact absurd (Int32.le_iff_toInt_le.mpr (by omega)) a1
  | succ n ih =>
    intro k M be le d c7 c8 c9 hX hV hi hal hwy hw hd hk hbe H
    have hS := hX.1.1
    have hL := hX.1.2.1
    have hwh := hX.2.1
    have d0 : 0 ≤ d.toInt := by omega
    have d1 : d.toInt < 8 := by omega
    have hb := (hX.2.2.2.2.1 _ hi).2.2 d d0 d1
    have hd1 : (d + 1).toInt = ((k + 1 : Nat) : Int) := by
      rw [i32_p1 (by omega)]
      omega
    have hlw := fun l hl h5 => ((((hX.2.2.2.2.2.2.1 h h6).2 l hl).1).2.2.1 h5).2
    have w1 : w.1 = zI M b 0 := by rw [hw]
    have w2 : w.2.1 = go := by rw [hw]
    unfold bstP
    rw [w1]
    have bes := besP_in (d := d) hwh hi
    have skip : ∀ c7 c8 c9 M2, badB (T 0) P (T (h + 1)) (besP P (zI M b 0) d) = true → CTX L T P M2 → VC T P M2 → SQ M2 → FZ noF lkW noO M M2 → Ev none e 66 29 [some (.ref 104), some (.ref b), some (.int go), some (.int ha), some (.int be), some (.int le), some (.int (d + 1)), c7, c8, c9] [] M2 v M' 0 0 → v = some (.int (if badB (T 0) P (T (h + 1)) (besP P (zI M b 0) d) = true ∨ (0 ≤ be ∧ le ≤ weiP (T 0) P (T (h + 1)) w (besP P (zI M b 0) d) d) then bstP (T 0) P (T (h + 1)) w n (d + 1) be le else bstP (T 0) P (T (h + 1)) w n (d + 1) d (weiP (T 0) P (T (h + 1)) w (besP P (zI M b 0) d) d))) ∧ SQ M' ∧ FZ noF lkW noO M M' ∧ VC T P M' := fun c7 c8 c9 M2 hbad hX2 hV2 hS2 hF2 H => by
      rw [if_pos (Or.inl hbad)]
      have z : ∀ k, zI M2 b k = zI M b k := fun k => hF2.fi (fun q => q)
      obtain ⟨r1, r2, r3, r4⟩ := ih (k + 1) M2 be le (d + 1) c7 c8 c9 hX2 hV2 (by rw [z]; exact hi) (by rw [hF2.fi (fun q => q)]; exact hal) (by rw [z]; exact hwy) (by rw [z, z, z]; exact hw) hd1 (by omega) hbe H
      exact ⟨r1, r2, hF2.trans r3, r4⟩
    have look : ∀ c9 M2, ¬ besP P (zI M b 0) d = -1 → opnB P (besP P (zI M b 0) d) = true → CTX L T P M2 → VC T P M2 → SQ M2 → FZ noF lkW noO M M2 → OKv T P M2 h (besP P (zI M b 0) d) → Ev none e 66 112 [some (.ref 104), some (.ref b), some (.int go), some (.int ha), some (.int be), some (.int le), some (.int d), some (.int (besP P (zI M b 0) d)), some (.int (256 * ha + besP P (zI M b 0) d)), c9] [] M2 v M' 0 0 → v = some (.int (if badB (T 0) P (T (h + 1)) (besP P (zI M b 0) d) = true ∨ (0 ≤ be ∧ le ≤ weiP (T 0) P (T (h + 1)) w (besP P (zI M b 0) d) d) then bstP (T 0) P (T (h + 1)) w n (d + 1) be le else bstP (T 0) P (T (h + 1)) w n (d + 1) d (weiP (T 0) P (T (h + 1)) w (besP P (zI M b 0) d) d))) ∧ SQ M' ∧ FZ noF lkW noO M M' ∧ VC T P M' := fun c9 M2 hne hop hX2 hV2 hS2 hF2 hK H => by
      have hc : inC P (besP P (zI M b 0) d) := bes.elim (fun q => absurd q hne) id
      obtain ⟨c, ec⟩ : ∃ c, c = besP P (zI M b 0) d := ⟨_, rfl⟩
      rw [← ec] at hc hop hK H skip ⊢
      have z : ∀ k, zI M2 b k = zI M b k := fun k => hF2.fi (fun q => q)
      have hcn : ¬ c < 0 := fun q => by rw [i32_z] at q; have := hc.1; omega
      obtain ⟨f1, f2⟩ := ix_av hwh hc hh h6
      have hvd : rI M2 128 (256 * ha + c) = bI (nevL (T 0) P (T (h + 1)) c (T (h + 1)).2) := by
        rw [rI_n f1]
        exact hK.1
      rcases chow_112 hS2 hb0 H with ⟨a1, _, H⟩ | ⟨a1, _, _, e1, v1, M3, rfl, H1, H⟩
      · rw [hvd, bI_1] at a1
        exact skip _ _ _ M2 (by unfold badB; rw [a1, Bool.or_true, Bool.or_true]) hX2 hV2 hS2 hF2 H
      · rw [hvd, bI_1, Bool.not_eq_true] at a1
        have hbad : badB (T 0) P (T (h + 1)) c = false := by
          unfold badB
          rw [a1, hop, decide_eq_false hcn]
          rfl
        have hsi : zI M2 (oI M2 109 ha) 13 = siQ (T (h + 1)) := by
          unfold oI
          rw [cl_n hh]
          exact (hX2.2.2.2.2.2.2.1 h h6).1.2.2.2.2.2
        rw [hsi] at H1
        obtain ⟨rfl, rfl⟩ := weiw_ok hb0 hX2 hh h6 hc d0 d1 hK (by rw [z]; exact hi) (by rw [hF2.fi (fun q => q)]; exact hal) (by rw [z]; exact hwy) (w := w) (by rw [z, z, z, w2]; exact hw) H1
        have hds : G_4 M3 c go = dstP P c w.2.1 := by rw [w2]; exact dst_ok hX2 hc hgo
        have hwt := wei_tot (g := T 0) (P := P) (q := T (h + 1)) (c := c) (d := d) (w := w) hlw
        rw [hds] at H
        rw [hwt]
        have cont : ∀ (b2 l2 : Int32) (c7 c8 c9 : Option Value), -1 ≤ b2.toInt → Ev none (e1 + 1) 66 29 [some (.ref 104), some (.ref b), some (.int go), some (.int ha), some (.int b2), some (.int l2), some (.int (d + 1)), c7, c8, c9] [] M3 v M' 0 0 → v = some (.int (bstP (T 0) P (T (h + 1)) w n (d + 1) b2 l2)) ∧ SQ M' ∧ FZ noF lkW noO M M' ∧ VC T P M' := fun b2 l2 c7 c8 c9 hb2 H => by
          obtain ⟨r1, r2, r3, r4⟩ := ih (k + 1) M3 b2 l2 (d + 1) c7 c8 c9 hX2 hV2 (by rw [z]; exact hi) (by rw [hF2.fi (fun q => q)]; exact hal) (by rw [z]; exact hwy) (by rw [z, z, z]; exact hw) hd1 (by omega) hb2 H
          exact ⟨r1, r2, hF2.trans r3, r4⟩
        rcases chow_154 hS2 hb0 H with ⟨a2, H⟩ | ⟨a2, a3, H⟩ | ⟨a2, a3, H⟩
        · rw [if_neg (fun q => q.elim (fun q => by rw [hbad] at q; cases q) (fun q => by rw [a2] at q; exact absurd q.1 (by decide)))]
          exact cont d _ _ _ _ (by omega) H
        · rw [if_pos (Or.inr ⟨Int32.le_iff_toInt_le.mpr (by have : be.toInt ≠ -1 := fun q => a2 (Int32.toInt_inj.mp (q.trans em.symm)); omega), a3⟩)]
          exact cont be le _ _ _ hbe H
        · rw [if_neg (fun q => q.elim (fun q => by rw [hbad] at q; cases q) (fun q => a3 q.2))]
          exact cont d _ _ _ _ (by omega) H
    rcases chow_29 hS hb0 H with ⟨a1, _⟩ | ⟨_, a2, _, H⟩ | ⟨_, a2, a3, _, H⟩ | ⟨_, a2, a3, a4, _, _, _, e1, v1, M1, rfl, H1, H⟩ | ⟨_, a2, a3, a4, _, _, H⟩
    · have := Int32.le_iff_toInt_le.mp a1
      omega
    · rw [hb] at a2
      exact skip _ _ _ M (by unfold badB; rw [a2, decide_eq_true (by decide), Bool.true_or]) hX hV hS (FZ.refl _) H
    · rw [hb] at a2 a3
      have hc := bes.elim (fun q => absurd q a2) id
      rw [hL, g7_ok hX.1 hc, bI_0] at a3
      exact skip _ _ _ M (by unfold badB; rw [a3, Bool.not_false, Bool.true_or, Bool.or_true]) hX hV hS (FZ.refl _) H
    · rw [hb] at a2 a3 H1 H
      have hc := bes.elim (fun q => absurd q a2) id
      rw [hL, g7_ok hX.1 hc, bI_0, Bool.not_eq_false] at a3
      have ho : oI M 109 ha = oN M 109 h := by
        unfold oI
        rw [cl_n hh]
      rw [ho] at H1
      obtain ⟨rfl, q2, q3, q4, q5⟩ := look_ok hX h6 hc (ix_av hwh hc hh h6).1 H1
      exact look _ M1 a2 a3 (hX.lk q2 q3) (hV.look hwh q4 q5 hc h6) q2 q3 q5 H
    · rw [hb] at a2 a3 a4 H
      have hc := bes.elim (fun q => absurd q a2) id
      rw [hL, g7_ok hX.1 hc, bI_0, Bool.not_eq_false] at a3
      rw [rI_n (ix_av hwh hc hh h6).1] at a4
      rcases hV h _ h6 hc with q | q
      · exact absurd q a4
      · exact look _ M a2 a3 hX hV hS (FZ.refl _) q H
theorem chow_ok {b : Nat} (hb0 : gNth sT b = some 21) (hX : CTX L T P M) (hV : VC T P M) {h : Nat} {ha go : Int32} (hh : ha.toInt = (h : Int)) (h6 : h < 6) (hgo : inC P go) {al : Bool} (hi : inC P (zI M b 0)) (hal : zI M 104 8 = bI al) (hwy : -1 ≤ (zI M b 4).toInt) (H : Ev none e 66 0 [some (.ref 104), some (.ref b), some (.int go), some (.int ha), none, none, none, none, none, none] [] M v M' 0 0) : v = some (.int (choP (T 0) P (T (h + 1)) (zI M b 0, go, zI M b 4, zI M b 3, al))) ∧ SQ M' ∧ FZ noF lkW noO M M' ∧ VC T P M' := by
  have hS := hX.1.1
  obtain ⟨e1, v1, M1, rfl, H1, H⟩ := chow_0 hS hb0 H
  obtain ⟨rfl, rfl⟩ := wtow_loop hX hi 8 0 0 rfl rfl (wto_0 hS H1)
  unfold choP
  have ht := toP_rng (P := P) (here := zI M1 b 0) (goal := go) 8 0 (by decide) (by decide)
  rcases chow_12 hS hb0 H with ⟨a1, H⟩ | ⟨a1, h1, h2⟩
  · rw [if_pos (by rw [a1]; decide)]
    rw [a1] at H
    exact chow_loop hb0 hh h6 hgo 8 0 M1 (-1) 0 0 none none none hX hV hi hal hwy rfl rfl rfl (by decide) H
  · rw [if_neg (fun q => by
      have e : (0 : Int32).toInt = 0 := rfl
      rcases ht with q2 | q2
      · exact a1 q2
      · have q : toP P (zI M1 b 0) go 8 0 < 0 := q
        rw [i32_z] at q
        omega)]
    subst h2
    exact ⟨h1, hS, FZ.refl _, hV⟩
theorem chos_loop {h : Nat} {ha go : Int32} (hh : ha.toInt = (h : Int)) (h6 : h < 6) (hgo : inC P go) {al : Bool} {w : WC} : ∀ (n k : Nat) (M : Mem) (be le d : Int32) (c7 c8 c9 : Option Value), CTX L T P M → VC T P M → inC P (zI M 137 0) → zI M 104 8 = bI al → -1 ≤ (zI M 137 4).toInt → w = (zI M 137 0, go, zI M 137 4, zI M 137 3, al) → d.toInt = (k : Int) → k + n = 8 → -1 ≤ be.toInt → Ev none e 66 29 [some (.ref 104), some (.ref 137), some (.int go), some (.int ha), some (.int be), some (.int le), some (.int d), c7, c8, c9] [] M v M' 0 0 → v = some (.int (bstP (T 0) P (T (h + 1)) w n d be le)) ∧ SQ M' ∧ FZ noF lkW noO M M' ∧ VC T P M' := by
  have e8 : (8 : Int32).toInt = 8 := rfl
  have e0 : (0 : Int32).toInt = 0 := rfl
  have em : (-1 : Int32).toInt = -1 := rfl
  intro n
  induction n with
  | zero =>
    intro k M be le d c7 c8 c9 hX hV hi hal hwy hw hd hk hbe H
    have hS := hX.1.1
    rcases chos_29 hS H with ⟨_, h1, h2⟩ | ⟨a1, _⟩ | ⟨a1, _⟩ | ⟨a1, _⟩ | ⟨a1, _⟩
    · subst h2
      exact ⟨h1, hS, FZ.refl _, hV⟩
    all_goals exact absurd (Int32.le_iff_toInt_le.mpr (by omega)) a1
  | succ n ih =>
    intro k M be le d c7 c8 c9 hX hV hi hal hwy hw hd hk hbe H
    have hS := hX.1.1
    have hL := hX.1.2.1
    have hwh := hX.2.1
    have d0 : 0 ≤ d.toInt := by omega
    have d1 : d.toInt < 8 := by omega
    have hb := (hX.2.2.2.2.1 _ hi).2.2 d d0 d1
    have hd1 : (d + 1).toInt = ((k + 1 : Nat) : Int) := by
      rw [i32_p1 (by omega)]
      omega
    have hlw := fun l hl h5 => ((((hX.2.2.2.2.2.2.1 h h6).2 l hl).1).2.2.1 h5).2
    have w1 : w.1 = zI M 137 0 := by rw [hw]
    have w2 : w.2.1 = go := by rw [hw]
    unfold bstP
    rw [w1]
    have bes := besP_in (d := d) hwh hi
    have skip : ∀ c7 c8 c9 M2, badB (T 0) P (T (h + 1)) (besP P (zI M 137 0) d) = true → CTX L T P M2 → VC T P M2 → SQ M2 → FZ noF lkW noO M M2 → Ev none e 66 29 [some (.ref 104), some (.ref 137), some (.int go), some (.int ha), some (.int be), some (.int le), some (.int (d + 1)), c7, c8, c9] [] M2 v M' 0 0 → v = some (.int (if badB (T 0) P (T (h + 1)) (besP P (zI M 137 0) d) = true ∨ (0 ≤ be ∧ le ≤ weiP (T 0) P (T (h + 1)) w (besP P (zI M 137 0) d) d) then bstP (T 0) P (T (h + 1)) w n (d + 1) be le else bstP (T 0) P (T (h + 1)) w n (d + 1) d (weiP (T 0) P (T (h + 1)) w (besP P (zI M 137 0) d) d))) ∧ SQ M' ∧ FZ noF lkW noO M M' ∧ VC T P M' := fun c7 c8 c9 M2 hbad hX2 hV2 hS2 hF2 H => by
      rw [if_pos (Or.inl hbad)]
      have z : ∀ k, zI M2 137 k = zI M 137 k := fun k => hF2.fi (fun q => q)
      obtain ⟨r1, r2, r3, r4⟩ := ih (k + 1) M2 be le (d + 1) c7 c8 c9 hX2 hV2 (by rw [z]; exact hi) (by rw [hF2.fi (fun q => q)]; exact hal) (by rw [z]; exact hwy) (by rw [z, z, z]; exact hw) hd1 (by omega) hbe H
      exact ⟨r1, r2, hF2.trans r3, r4⟩
    have look : ∀ c9 M2, ¬ besP P (zI M 137 0) d = -1 → opnB P (besP P (zI M 137 0) d) = true → CTX L T P M2 → VC T P M2 → SQ M2 → FZ noF lkW noO M M2 → OKv T P M2 h (besP P (zI M 137 0) d) → Ev none e 66 112 [some (.ref 104), some (.ref 137), some (.int go), some (.int ha), some (.int be), some (.int le), some (.int d), some (.int (besP P (zI M 137 0) d)), some (.int (256 * ha + besP P (zI M 137 0) d)), c9] [] M2 v M' 0 0 → v = some (.int (if badB (T 0) P (T (h + 1)) (besP P (zI M 137 0) d) = true ∨ (0 ≤ be ∧ le ≤ weiP (T 0) P (T (h + 1)) w (besP P (zI M 137 0) d) d) then bstP (T 0) P (T (h + 1)) w n (d + 1) be le else bstP (T 0) P (T (h + 1)) w n (d + 1) d (weiP (T 0) P (T (h + 1)) w (besP P (zI M 137 0) d) d))) ∧ SQ M' ∧ FZ noF lkW noO M M' ∧ VC T P M' := fun c9 M2 hne hop hX2 hV2 hS2 hF2 hK H => by
      have hc : inC P (besP P (zI M 137 0) d) := bes.elim (fun q => absurd q hne) id
      obtain ⟨c, ec⟩ : ∃ c, c = besP P (zI M 137 0) d := ⟨_, rfl⟩
      rw [← ec] at hc hop hK H skip ⊢
      have z : ∀ k, zI M2 137 k = zI M 137 k := fun k => hF2.fi (fun q => q)
      have hcn : ¬ c < 0 := fun q => by rw [i32_z] at q; have := hc.1; omega
      obtain ⟨f1, f2⟩ := ix_av hwh hc hh h6
      have hvd : rI M2 128 (256 * ha + c) = bI (nevL (T 0) P (T (h + 1)) c (T (h + 1)).2) := by
        rw [rI_n f1]
        exact hK.1
      rcases chos_112 hS2 H with ⟨a1, _, H⟩ | ⟨a1, _, _, e1, v1, M3, rfl, H1, H⟩
      · rw [hvd, bI_1] at a1
        exact skip _ _ _ M2 (by unfold badB; rw [a1, Bool.or_true, Bool.or_true]) hX2 hV2 hS2 hF2 H
      · rw [hvd, bI_1, Bool.not_eq_true] at a1
        have hbad : badB (T 0) P (T (h + 1)) c = false := by
          unfold badB
          rw [a1, hop, decide_eq_false hcn]
          rfl
        have hsi : zI M2 (oI M2 109 ha) 13 = siQ (T (h + 1)) := by
          unfold oI
          rw [cl_n hh]
          exact (hX2.2.2.2.2.2.2.1 h h6).1.2.2.2.2.2
        rw [hsi] at H1
        obtain ⟨rfl, rfl⟩ := weis_ok hX2 hh h6 hc d0 d1 hK (by rw [z]; exact hi) (by rw [hF2.fi (fun q => q)]; exact hal) (by rw [z]; exact hwy) (w := w) (by rw [z, z, z, w2]; exact hw) H1
        have hds : G_4 M3 c go = dstP P c w.2.1 := by rw [w2]; exact dst_ok hX2 hc hgo
        have hwt := wei_tot (g := T 0) (P := P) (q := T (h + 1)) (c := c) (d := d) (w := w) hlw
        rw [hds] at H
        rw [hwt]
        have cont : ∀ (b2 l2 : Int32) (c7 c8 c9 : Option Value), -1 ≤ b2.toInt → Ev none (e1 + 1) 66 29 [some (.ref 104), some (.ref 137), some (.int go), some (.int ha), some (.int b2), some (.int l2), some (.int (d + 1)), c7, c8, c9] [] M3 v M' 0 0 → v = some (.int (bstP (T 0) P (T (h + 1)) w n (d + 1) b2 l2)) ∧ SQ M' ∧ FZ noF lkW noO M M' ∧ VC T P M' := fun b2 l2 c7 c8 c9 hb2 H => by
          obtain ⟨r1, r2, r3, r4⟩ := ih (k + 1) M3 b2 l2 (d + 1) c7 c8 c9 hX2 hV2 (by rw [z]; exact hi) (by rw [hF2.fi (fun q => q)]; exact hal) (by rw [z]; exact hwy) (by rw [z, z, z]; exact hw) hd1 (by omega) hb2 H
          exact ⟨r1, r2, hF2.trans r3, r4⟩
        rcases chos_154 hS2 H with ⟨a2, H⟩ | ⟨a2, a3, H⟩ | ⟨a2, a3, H⟩
        · rw [if_neg (fun q => q.elim (fun q => by rw [hbad] at q; cases q) (fun q => by rw [a2] at q; exact absurd q.1 (by decide)))]
          exact cont d _ _ _ _ (by omega) H
        · rw [if_pos (Or.inr ⟨Int32.le_iff_toInt_le.mpr (by have : be.toInt ≠ -1 := fun q => a2 (Int32.toInt_inj.mp (q.trans em.symm)); omega), a3⟩)]
          exact cont be le _ _ _ hbe H
        · rw [if_neg (fun q => q.elim (fun q => by rw [hbad] at q; cases q) (fun q => a3 q.2))]
          exact cont d _ _ _ _ (by omega) H
    rcases chos_29 hS H with ⟨a1, _⟩ | ⟨_, a2, _, H⟩ | ⟨_, a2, a3, _, H⟩ | ⟨_, a2, a3, a4, _, _, _, e1, v1, M1, rfl, H1, H⟩ | ⟨_, a2, a3, a4, _, _, H⟩
    · have := Int32.le_iff_toInt_le.mp a1
      omega
    · rw [hb] at a2
      exact skip _ _ _ M (by unfold badB; rw [a2, decide_eq_true (by decide), Bool.true_or]) hX hV hS (FZ.refl _) H
    · rw [hb] at a2 a3
      have hc := bes.elim (fun q => absurd q a2) id
      rw [hL, g7_ok hX.1 hc, bI_0] at a3
      exact skip _ _ _ M (by unfold badB; rw [a3, Bool.not_false, Bool.true_or, Bool.or_true]) hX hV hS (FZ.refl _) H
    · rw [hb] at a2 a3 H1 H
      have hc := bes.elim (fun q => absurd q a2) id
      rw [hL, g7_ok hX.1 hc, bI_0, Bool.not_eq_false] at a3
      have ho : oI M 109 ha = oN M 109 h := by
        unfold oI
        rw [cl_n hh]
      rw [ho] at H1
      obtain ⟨rfl, q2, q3, q4, q5⟩ := look_ok hX h6 hc (ix_av hwh hc hh h6).1 H1
      exact look _ M1 a2 a3 (hX.lk q2 q3) (hV.look hwh q4 q5 hc h6) q2 q3 q5 H
    · rw [hb] at a2 a3 a4 H
      have hc := bes.elim (fun q => absurd q a2) id
      rw [hL, g7_ok hX.1 hc, bI_0, Bool.not_eq_false] at a3
      rw [rI_n (ix_av hwh hc hh h6).1] at a4
      rcases hV h _ h6 hc with q | q
      · exact absurd q a4
      · exact look _ M a2 a3 hX hV hS (FZ.refl _) q H
theorem chos_ok (hX : CTX L T P M) (hV : VC T P M) {h : Nat} {ha go : Int32} (hh : ha.toInt = (h : Int)) (h6 : h < 6) (hgo : inC P go) {al : Bool} (hi : inC P (zI M 137 0)) (hal : zI M 104 8 = bI al) (hwy : -1 ≤ (zI M 137 4).toInt) (H : Ev none e 66 0 [some (.ref 104), some (.ref 137), some (.int go), some (.int ha), none, none, none, none, none, none] [] M v M' 0 0) : v = some (.int (choP (T 0) P (T (h + 1)) (zI M 137 0, go, zI M 137 4, zI M 137 3, al))) ∧ SQ M' ∧ FZ noF lkW noO M M' ∧ VC T P M' := by
  have hS := hX.1.1
  obtain ⟨e1, v1, M1, rfl, H1, H⟩ := chos_0 hS H
  obtain ⟨rfl, rfl⟩ := wtow_loop hX hi 8 0 0 rfl rfl (wto_0 hS H1)
  unfold choP
  have ht := toP_rng (P := P) (here := zI M1 137 0) (goal := go) 8 0 (by decide) (by decide)
  rcases chos_12 hS H with ⟨a1, H⟩ | ⟨a1, h1, h2⟩
  · rw [if_pos (by rw [a1]; decide)]
    rw [a1] at H
    exact chos_loop hh h6 hgo 8 0 M1 (-1) 0 0 none none none hX hV hi hal hwy rfl rfl rfl (by decide) H
  · rw [if_neg (fun q => by
      have e : (0 : Int32).toInt = 0 := rfl
      rcases ht with q2 | q2
      · exact a1 q2
      · have q : toP P (zI M1 137 0) go 8 0 < 0 := q
        rw [i32_z] at q
        omega)]
    subst h2
    exact ⟨h1, hS, FZ.refl _, hV⟩
end CHO
