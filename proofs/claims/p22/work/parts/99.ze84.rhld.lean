/-! THE REFERENCE'S holds -/
def RST (T : TS) (P : PK) (M : Mem) : Prop := SQ M ∧ (∀ i, i < 2314 → rN M 635 i = P i) ∧ (zI M 633 28 = bdQ (T 0) ∧ zI M 633 29 = mdQ (T 0) ∧ zI M 633 30 = dyQ (T 0)) ∧ ∀ t, t < 7 → (TXR M t (T t) ∧ LW (T t)) ∧ (T t).1.2.2.length ≤ 96
def tuW (a : Nat) : Prop := a = 649
section RHL
variable {e : Nat} {T : TS} {P P' : PK} {M M1 M' : Mem} {v : Option Value} {c d : Int32}
theorem RST.sq (h : RST T P M) : SQ M := h.1
theorem TXR.fz {F : Nat → Nat → Prop} {W O : Nat → Prop} {t : Nat} {q : Sg × List Lnq} (h : TXR M t q) (hF : FZ F W O M M') (w : ∀ a, 639 ≤ a → a ≤ 647 → ¬ W a) : TXR M' t q := by
  obtain ⟨⟨h1, h2, h3⟩, h4⟩ := h
  refine ⟨⟨by rw [hF.rn (w 639 (by decide) (by decide))]; exact h1, h2, fun j l hj => ?_⟩, fun j cd h5 hj => ?_⟩
  · rw [hF.rn (w 640 (by decide) (by decide)), hF.rn (w 641 (by decide) (by decide)), hF.rn (w 642 (by decide) (by decide)), hF.rn (w 643 (by decide) (by decide)), hF.rn (w 644 (by decide) (by decide))]
    exact h3 j l hj
  · rw [hF.rn (w 645 (by decide) (by decide)), hF.rn (w 646 (by decide) (by decide)), hF.rn (w 647 (by decide) (by decide))]
    exact h4 j cd h5 hj
theorem RST.fz {F : Nat → Nat → Prop} {W O : Nat → Prop} (h : RST T P M) (hS : SQ M') (hF : FZ F W O M M') (f : ∀ k, 28 ≤ k → k ≤ 30 → ¬ F 633 k) (w : ∀ a, (a = 635 ∨ (639 ≤ a ∧ a ≤ 647)) → ¬ W a) : RST T P M' := by
  obtain ⟨_, h2, ⟨h3, h4, h5⟩, h6⟩ := h
  refine ⟨hS, fun i hi => by rw [hF.rn (w 635 (Or.inl rfl))]; exact h2 i hi, ⟨?_, ?_, ?_⟩, fun t ht => ?_⟩
  · rw [hF.fi (f 28 (by decide) (by decide))]; exact h3
  · rw [hF.fi (f 29 (by decide) (by decide))]; exact h4
  · rw [hF.fi (f 30 (by decide) (by decide))]; exact h5
  · obtain ⟨⟨q1, q2⟩, q3⟩ := h6 t ht
    exact ⟨⟨q1.fz hF (fun a h1 h2 => w a (Or.inr ⟨h1, h2⟩)), q2⟩, q3⟩
theorem r_cell (h : RST T P M) (hw : wh4 P) (hc : inC P c) {f : Int32} {fn : Nat} (hf : f.toInt = (fn : Int)) (hf6 : fn ≤ 6) : G_146 M c f = cE P fn c := by
  obtain ⟨c0, _, c2⟩ := hc.lt hw
  have e := i32_cell (c := c) (k := f) c0 c2 (by omega) (by omega)
  have e2 : ((522 + 7 * c) + f).toNatClampNeg = cX fn c := by
    refine cl_n ?_
    rw [e]
    unfold cX
    have := Int.toNat_of_nonneg c0
    omega
  unfold G_146 rI cE
  rw [e2]
  exact h.2.1 _ (by unfold cX; omega)
theorem r_s (h : RST T P M) {i : Int32} {n : Nat} (hi : i.toInt = (n : Int)) (hn : n < 2314) : rI M 635 i = P n := by
  unfold rI
  rw [cl_n hi]
  exact h.2.1 n hn
theorem r0 (h : RST T P M) : rI M 635 0 = P 0 := r_s h (n := 0) rfl (by decide)
theorem r1 (h : RST T P M) : rI M 635 1 = P 1 := r_s h (n := 1) rfl (by decide)
theorem g148_ok (h : RST T P M) (hw : wh4 P) (hc : inC P c) : G_148 M c = bI (opnB P c) := by
  unfold G_148 opnB
  rw [r_cell h hw hc (fn := 0) rfl (by decide)]
  by_cases h3 : cE P 0 c = 3
  · rw [if_pos h3, decide_eq_true h3]; rfl
  · rw [if_neg h3, decide_eq_false h3]
    by_cases h6 : cE P 0 c = 6
    · rw [if_pos h6, decide_eq_true h6]; rfl
    · rw [if_neg h6, decide_eq_false h6]; rfl
theorem g149_ok (h : RST T P M) (hw : wh4 P) (hc : inC P c) : G_149 M c = bI (grnB P c) := by
  unfold G_149 grnB
  rw [r_cell h hw hc (fn := 0) rfl (by decide)]
  by_cases h3 : cE P 0 c = 0
  · rw [if_pos h3, decide_eq_true h3]; rfl
  · rw [if_neg h3, decide_eq_false h3]
    by_cases h6 : cE P 0 c = 2
    · rw [if_pos h6, decide_eq_true h6]; rfl
    · rw [if_neg h6, decide_eq_false h6]; rfl
theorem g150_ok (h : RST T P M) (hw : wh4 P) (hc : inC P c) : G_150 M c = bI (wrnB (T 0) P c) := by
  unfold G_150 wrnB
  rw [r_cell h hw hc (fn := 3) rfl (by decide), h.2.2.1.1]
  by_cases hl : cE P 3 c < bdQ (T 0)
  · rw [if_pos hl, decide_eq_false (fun q => by rw [Int32.lt_iff_toInt_lt] at hl; have := Int32.le_iff_toInt_le.mp q; omega)]; rfl
  · rw [if_neg hl, decide_eq_true (Int32.le_iff_toInt_le.mpr (by rw [Int32.lt_iff_toInt_lt] at hl; omega))]; rfl
theorem g151_ok (h : RST T P M) (hw : wh4 P) (hc : inC P c) : G_151 M c = bI (decide (bdQ (T 0) ≤ cE P 3 c ∧ mdQ (T 0) ≤ cE P 4 c)) := by
  unfold G_151
  rw [g150_ok h hw hc, r_cell h hw hc (fn := 4) rfl (by decide), h.2.2.1.2.1]
  unfold wrnB
  by_cases h1 : bdQ (T 0) ≤ cE P 3 c
  · rw [decide_eq_true h1, if_neg (by decide)]
    by_cases hl : cE P 4 c < mdQ (T 0)
    · rw [if_pos hl, decide_eq_false (fun q => by rw [Int32.lt_iff_toInt_lt] at hl; have := Int32.le_iff_toInt_le.mp q.2; omega)]; rfl
    · rw [if_neg hl, decide_eq_true ⟨h1, Int32.le_iff_toInt_le.mpr (by rw [Int32.lt_iff_toInt_lt] at hl; omega)⟩]; rfl
  · rw [decide_eq_false h1, if_pos (by decide), decide_eq_false (fun q => h1 q.1)]; rfl
theorem g141_ok (x : Int32) : G_141 M x = absI x := by
  unfold G_141 absI
  by_cases h : x < 0
  · rw [if_pos h, if_neg (fun q => by rw [i32_z] at h; have := Int32.le_iff_toInt_le.mp q; have e : (0 : Int32).toInt = 0 := rfl; omega)]
  · rw [if_neg h, if_pos (Int32.le_iff_toInt_le.mpr (by rw [i32_z] at h; have e : (0 : Int32).toInt = 0 := rfl; omega))]
theorem g195_ok (h : RST T P M) {x y : Int32} : G_195 M x y = acrP P x y := by
  unfold G_195 acrP
  rw [g141_ok, r0 h]
theorem g196_ok (h : RST T P M) {x y : Int32} : G_196 M x y = aloP P x y := by
  unfold G_196 aloP
  rw [g141_ok, r0 h]
theorem g192_ok : G_192 M d = eastI d := by
  unfold G_192 eastI
  by_cases h : d - d / 4 * 4 = 0
  · rw [if_pos h, if_pos h]
  · rw [if_neg h, if_neg h]
    by_cases h4 : 4 ≤ d
    · rw [if_pos h4, if_neg (fun q => by rw [Int32.lt_iff_toInt_lt] at q; have := Int32.le_iff_toInt_le.mp h4; omega)]
    · rw [if_neg h4, if_pos (by rw [Int32.lt_iff_toInt_lt]; have : ¬ (4 : Int32).toInt ≤ d.toInt := fun q => h4 (Int32.le_iff_toInt_le.mpr q); omega)]
theorem g193_ok : G_193 M d = southI d := by
  unfold G_193 southI G_140
  by_cases h : d - d / 4 * 4 = 2
  · rw [if_pos h, if_pos h]
  · rw [if_neg h, if_neg h]
    by_cases h3 : d < 3
    · rw [if_pos h3, if_pos rfl, if_pos h3]
    · rw [if_neg h3, if_neg h3]
      by_cases h5 : 5 < d
      · rw [if_pos h5, if_pos rfl, if_pos h5]
      · rw [if_neg h5, if_neg (by decide), if_neg h5]
theorem g194_ok (h : RST T P M) : G_194 M c d = besP P c d := by
  unfold G_194 besP besI
  rw [g192_ok, g193_ok, r0 h, r1 h]
  unfold G_140
  obtain ⟨x, ex⟩ : ∃ x, x = c - c / P 0 * P 0 + eastI d := ⟨_, rfl⟩
  obtain ⟨y, ey⟩ : ∃ y, y = c / P 0 + southI d := ⟨_, rfl⟩
  rw [← ex, ← ey]
  by_cases h1 : x < 0
  · rw [if_pos h1, if_pos rfl, if_pos h1]
  · rw [if_neg h1, if_neg h1]
    by_cases h2 : P 0 - 1 < x
    · rw [if_pos h2, if_pos rfl, if_pos h2]
    · rw [if_neg h2, if_neg (by decide), if_neg h2]
      by_cases h3 : y < 0
      · rw [if_pos h3, if_pos rfl, if_pos h3]
      · rw [if_neg h3, if_neg h3]
        by_cases h4 : P 1 - 1 < y
        · rw [if_pos h4, if_pos rfl, if_pos h4]
        · rw [if_neg h4, if_neg (by decide), if_neg h4]
theorem g144_ok (h : RST T P M) (hw : wh4 P) : (G_144 M).toInt = (clsP P : Int) := by
  obtain ⟨e1, e2, _⟩ := cls_int hw
  unfold G_144
  rw [r0 h, r1 h, i32_mul (by omega) (by omega), e1]
theorem ris_ok (h : RST T P M) (hw : wh4 P) (hc : inC P c) {cd : Cdq} (hk : atC cd) (h7 : cd.1.toInt ≤ 7) (H : Ev none e 186 0 [some (.ref 633), some (.int c), some (.int cd.1)] [] M v M' 0 0) : M' = M ∧ v = some (.int (bI (trP (T 0) P c cd))) := by
  have hS := h.1
  obtain ⟨m, hm, he⟩ := i32_in (k := 7) hk.1 h7 (by decide)
  obtain ⟨a, s, n⟩ := cd
  have he : a = nI m := he
  subst he
  have k0 : ∀ f, f = (0 : Int32) → G_146 M c f = cE P 0 c := fun f hf => by rw [hf]; exact r_cell h hw hc rfl (by decide)
  clear hk h7
  match m, hm with
  | 0, _ =>
    have et : trP (T 0) P c (nI 0, s, n) = decide (cE P 0 c = 0) := rfl
    rw [et]
    rcases ris0_0 hS H with ⟨a1, h1, h2⟩ | ⟨a1, h1, h2⟩
    · rw [k0 0 rfl] at a1; exact ⟨h2, by rw [h1, decide_eq_true a1]; rfl⟩
    · rw [k0 0 rfl] at a1; exact ⟨h2, by rw [h1, decide_eq_false a1]; rfl⟩
  | 1, _ =>
    have et : trP (T 0) P c (nI 1, s, n) = decide (cE P 0 c = 1) := rfl
    rw [et]
    rcases ris1_0 hS H with ⟨a1, h1, h2⟩ | ⟨a1, h1, h2⟩
    · rw [k0 0 rfl] at a1; exact ⟨h2, by rw [h1, decide_eq_true a1]; rfl⟩
    · rw [k0 0 rfl] at a1; exact ⟨h2, by rw [h1, decide_eq_false a1]; rfl⟩
  | 2, _ =>
    have et : trP (T 0) P c (nI 2, s, n) = decide (cE P 0 c = 2) := rfl
    rw [et]
    rcases ris2_0 hS H with ⟨a1, h1, h2⟩ | ⟨a1, h1, h2⟩
    · rw [k0 0 rfl] at a1; exact ⟨h2, by rw [h1, decide_eq_true a1]; rfl⟩
    · rw [k0 0 rfl] at a1; exact ⟨h2, by rw [h1, decide_eq_false a1]; rfl⟩
  | 3, _ =>
    have et : trP (T 0) P c (nI 3, s, n) = decide (cE P 0 c = 4) := rfl
    rw [et]
    rcases ris3_0 hS H with ⟨a1, h1, h2⟩ | ⟨a1, h1, h2⟩
    · rw [k0 0 rfl] at a1; exact ⟨h2, by rw [h1, decide_eq_true a1]; rfl⟩
    · rw [k0 0 rfl] at a1; exact ⟨h2, by rw [h1, decide_eq_false a1]; rfl⟩
  | 4, _ =>
    have et : trP (T 0) P c (nI 4, s, n) = decide (cE P 0 c = 5) := rfl
    rw [et]
    rcases ris4_0 hS H with ⟨a1, h1, h2⟩ | ⟨a1, h1, h2⟩
    · rw [k0 0 rfl] at a1; exact ⟨h2, by rw [h1, decide_eq_true a1]; rfl⟩
    · rw [k0 0 rfl] at a1; exact ⟨h2, by rw [h1, decide_eq_false a1]; rfl⟩
  | 5, _ =>
    have et : trP (T 0) P c (nI 5, s, n) = decide (cE P 1 c = 1) := rfl
    rw [et]
    rcases ris5_0 hS H with ⟨a1, h1, h2⟩ | ⟨a1, h1, h2⟩
    · rw [r_cell h hw hc (fn := 1) rfl (by decide)] at a1; exact ⟨h2, by rw [h1, decide_eq_true a1]; rfl⟩
    · rw [r_cell h hw hc (fn := 1) rfl (by decide)] at a1; exact ⟨h2, by rw [h1, decide_eq_false a1]; rfl⟩
  | 6, _ =>
    have et : trP (T 0) P c (nI 6, s, n) = decide (bdQ (T 0) ≤ cE P 3 c ∧ mdQ (T 0) ≤ cE P 4 c) := rfl
    rw [et]
    obtain ⟨h1, h2⟩ := ris6_0 hS H
    exact ⟨h2, by rw [h1, g151_ok h hw hc]⟩
  | 7, _ =>
    have et : trP (T 0) P c (nI 7, s, n) = decide (bdQ (T 0) ≤ cE P 3 c) := rfl
    rw [et]
    obtain ⟨h1, h2⟩ := ris7_0 hS H
    exact ⟨h2, by rw [h1, g150_ok h hw hc]; rfl⟩
/-! the pile -/
def RTr (M : Mem) (st : List Bool) : Prop := ∀ j x, st.reverse[j]? = some x → rN M 649 j = bI x
theorem nar_b1 (x : Bool) : vp_nar .boolean (bI x) = bI x := nar_same (by cases x <;> decide)
theorem len649 (hS : SH M) : (zrw M 649).length = 60 := (hS.row qa_649 qw_77).2
theorem RTr.top {x : Bool} {st : List Bool} (h : RTr M (x :: st)) : rN M 649 st.length = bI x := h st.length x (by
  rw [List.reverse_cons, List.getElem?_append_right (by rw [List.length_reverse]; exact Nat.le_refl _), List.length_reverse, Nat.sub_self]
  rfl)
theorem RTr.pop {x : Bool} {st : List Bool} (h : RTr M (x :: st)) : RTr M st := fun j y hj => h j y (by
  have hl := (List.getElem?_eq_some_iff.mp hj).1
  rw [List.reverse_cons, List.getElem?_append_left hl]
  exact hj)
theorem RTr.push {x : Bool} {st : List Bool} (hS : SH M) (h : RTr M st) (hl : st.length < 60) : RTr (wI M 649 st.length (bI x)) (x :: st) := fun j y hj => by
  rw [List.reverse_cons] at hj
  by_cases hjl : j < st.length
  · rw [rN_wI_ne (by omega)]
    rw [List.getElem?_append_left (by rw [List.length_reverse]; exact hjl)] at hj
    exact h j y hj
  · have hl2 := (List.getElem?_eq_some_iff.mp hj).1
    rw [List.length_append, List.length_reverse] at hl2
    have hj2 : j = st.length := by
      have : [x].length = 1 := rfl
      omega
    subst hj2
    rw [List.getElem?_append_right (by rw [List.length_reverse]; exact Nat.le_refl _), List.length_reverse, Nat.sub_self] at hj
    cases hj
    exact rN_wI_eq (by rw [len649 hS]; exact hl)
theorem tu_rst (h : RST T P M) (hS : SQ M') (hF : FZ noF tuW noO M M') : RST T P M' := h.fz hS hF (fun _ _ _ q => q) (fun a ha q => by unfold tuW at q; omega)
end RHL
