/-! BY HAND: the reference's beside(c, d), as a value -/
def eastI (d : Int32) : Int32 := if d - d / 4 * 4 = 0 then 0 else if d < 4 then 1 else -1
def southI (d : Int32) : Int32 := if d - d / 4 * 4 = 2 then 0 else if d < 3 then -1 else if 5 < d then -1 else 1
def besI (w h c d : Int32) : Int32 := if c - c / w * w + eastI d < 0 then -1 else if w - 1 < c - c / w * w + eastI d then -1 else if c / w + southI d < 0 then -1 else if h - 1 < c / w + southI d then -1 else w * (c / w + southI d) + (c - c / w * w + eastI d)
theorem ev_isin {d : Nat} {M : Mem} {x lo hi : Int32} : Ev none d 140 0 [some (.int x), some (.int lo), some (.int hi)] [] M (some (.int (if x < lo then 0 else if hi < x then 0 else 1))) M 0 0 := by
  refine Ev.step (pc' := if x < lo then 14 else 5) (ls' := [some (.int x), some (.int lo), some (.int hi)]) (st' := []) (M1 := M) 3 (fun n => rfl) ?_
  by_cases h1 : x < lo
  · rw [if_pos h1, if_pos h1]
    refine Ev.step (pc' := 15) (ls' := [some (.int x), some (.int lo), some (.int hi)]) (st' := [.int 0]) (M1 := M) 1 (fun n => rfl) ?_
    exact Ev.ret (fun n => rfl)
  · rw [if_neg h1, if_neg h1]
    refine Ev.step (pc' := if hi < x then 14 else 10) (ls' := [some (.int x), some (.int lo), some (.int hi)]) (st' := []) (M1 := M) 3 (fun n => rfl) ?_
    by_cases h2 : hi < x
    · rw [if_pos h2, if_pos h2]
      refine Ev.step (pc' := 15) (ls' := [some (.int x), some (.int lo), some (.int hi)]) (st' := [.int 0]) (M1 := M) 1 (fun n => rfl) ?_
      exact Ev.ret (fun n => rfl)
    · rw [if_neg h2, if_neg h2]
      refine Ev.step (pc' := 15) (ls' := [some (.int x), some (.int lo), some (.int hi)]) (st' := [.int 1]) (M1 := M) 2 (fun n => rfl) ?_
      exact Ev.ret (fun n => rfl)
theorem ev_east {e : Nat} {M : Mem} {d : Int32} : Ev none e 192 0 [some (.int d)] [] M (some (.int (eastI d))) M 0 0 := by
  refine Ev.step (pc' := if d - d / 4 * 4 = 0 then 6 else 10) (ls' := [some (.int d)]) (st' := []) (M1 := M) 4 (fun n => rfl) ?_
  unfold eastI
  by_cases h1 : d - d / 4 * 4 = 0
  · rw [if_pos h1, if_pos h1]
    refine Ev.step (pc' := 20) (ls' := [some (.int d)]) (st' := [.int 0]) (M1 := M) 2 (fun n => rfl) ?_
    exact Ev.ret (fun n => rfl)
  · rw [if_neg h1, if_neg h1]
    refine Ev.step (pc' := if (4 : Int32) ≤ d then 19 else 15) (ls' := [some (.int d)]) (st' := []) (M1 := M) 3 (fun n => rfl) ?_
    by_cases h2 : d < 4
    · have h3 : ¬ (4 : Int32) ≤ d := by rw [Int32.le_iff_toInt_le]; rw [Int32.lt_iff_toInt_lt] at h2; omega
      rw [if_neg h3, if_pos h2]
      refine Ev.step (pc' := 20) (ls' := [some (.int d)]) (st' := [.int 1]) (M1 := M) 2 (fun n => rfl) ?_
      exact Ev.ret (fun n => rfl)
    · have h3 : (4 : Int32) ≤ d := by rw [Int32.le_iff_toInt_le]; rw [Int32.lt_iff_toInt_lt] at h2; omega
      rw [if_pos h3, if_neg h2]
      refine Ev.step (pc' := 20) (ls' := [some (.int d)]) (st' := [.int (-1)]) (M1 := M) 1 (fun n => rfl) ?_
      exact Ev.ret (fun n => rfl)
theorem Ev.call0 {sc : Sta} {d me pc : Nat} {ls ls0 : Lo} {st rest : List Value} {M M1 M' : Mem} {v v1 : Option Value} {c s id : Nat} (h : ∀ n, go sc (n + 1) (d + 1) me pc ls st M = gThen (go sc n d id 0 ls0 [] M) (fun v M' c s => gAdd c s (go sc n (d + 1) me (pc + 3) ls (v.toList ++ rest) M'))) (h1 : Ev sc d id 0 ls0 [] M v1 M1 0 0) (h2 : Ev sc (d + 1) me (pc + 3) ls (v1.toList ++ rest) M1 v M' c s) : Ev sc (d + 1) me pc ls st M v M' c s := (Ev.call h h1 h2).cast (Nat.zero_add _) (Nat.zero_add _)
theorem ev_south {e : Nat} {M : Mem} {d : Int32} : Ev none (e + 1) 193 0 [some (.int d)] [] M (some (.int (southI d))) M 0 0 := by
  refine Ev.step (pc' := if d - d / 4 * 4 = 2 then 7 else 11) (ls' := [some (.int d)]) (st' := []) (M1 := M) 5 (fun n => rfl) ?_
  unfold southI
  by_cases h1 : d - d / 4 * 4 = 2
  · rw [if_pos h1, if_pos h1]
    refine Ev.step (pc' := 25) (ls' := [some (.int d)]) (st' := [.int 0]) (M1 := M) 2 (fun n => rfl) ?_
    exact Ev.ret (fun n => rfl)
  · rw [if_neg h1, if_neg h1]
    refine Ev.step (pc' := 14) (ls' := [some (.int d)]) (st' := [.int 5, .int 3, .int d]) (M1 := M) 3 (fun n => rfl) ?_
    refine Ev.call0 (ls0 := [some (.int d), some (.int 3), some (.int 5)]) (rest := []) (id := 140) (v1 := some (.int (if d < 3 then 0 else if 5 < d then 0 else 1))) (M1 := M) (fun n => rfl) ev_isin ?_
    by_cases h2 : d < 3
    · rw [if_pos h2, if_pos h2]
      refine Ev.step (pc' := 25) (ls' := [some (.int d)]) (st' := [.int (-1)]) (M1 := M) 2 (fun n => rfl) ?_
      exact Ev.ret (fun n => rfl)
    · rw [if_neg h2, if_neg h2]
      by_cases h3 : 5 < d
      · rw [if_pos h3, if_pos h3]
        refine Ev.step (pc' := 25) (ls' := [some (.int d)]) (st' := [.int (-1)]) (M1 := M) 2 (fun n => rfl) ?_
        exact Ev.ret (fun n => rfl)
      · rw [if_neg h3, if_neg h3]
        refine Ev.step (pc' := 25) (ls' := [some (.int d)]) (st' := [.int 1]) (M1 := M) 3 (fun n => rfl) ?_
        exact Ev.ret (fun n => rfl)
section BES
variable {M : Mem} {vs : List Value} {l : List Int32}
theorem gf_s {st : List Value} {ini : Bool} (hM : gNth M 633 = some (.inr (11, vs))) (hv : gNth vs 5 = some (.ref 635)) : gGet (.getfield 30) none 11 ini (.ref 633 :: st) M = some (.ref 635 :: st, M) := by
  show (match gOwn fRs 11 30, gNth M 633 with
    | some (ci, k, _), some (.inr (c, fs)) => match Nat.beq c ci, gNth fs k with
      | true, some v => some (v :: st, M)
      | _, _ => none
    | _, _ => none) = _
  rw [hM]
  show (match Nat.beq 11 11, gNth vs 5 with
    | true, some v => some (v :: st, M)
    | _, _ => none) = _
  rw [hv]
theorem ia_s {st : List Value} {ini : Bool} {j x : Int32} (hs : gNth M 635 = some (.inl (1, .inl l))) (h0 : gAt l j = some x) : gGet .iaload none 11 ini (.int j :: .ref 635 :: st) M = some (.int x :: st, M) := by
  show (match gNth M 635 with
    | some (.inl (1, .inl l)) => match gAt l j with
      | some x => some (Value.int x :: st, M)
      | none => none
    | _ => none) = _
  rw [hs]
  show (match gAt l j with
      | some x => some (Value.int x :: st, M)
      | none => none) = _
  rw [h0]
variable {w h c d : Int32} {e : Nat}
set_option maxHeartbeats 4000000 in
theorem ev_beside (hM : gNth M 633 = some (.inr (11, vs))) (hv : gNth vs 5 = some (.ref 635)) (hs : gNth M 635 = some (.inl (1, .inl l))) (h0 : gAt l 0 = some w) (h1 : gAt l 1 = some h) (hw : ¬ w = 0) : Ev none (e + 2) 194 0 [some (.ref 633), some (.int c), some (.int d), none, none] [] M (some (.int (besI w h c d))) M 0 0 := by
  refine Ev.step (pc' := 2) (ls' := [some (.ref 633), some (.int c), some (.int d), none, none]) (st' := [.ref 633, .int c]) (M1 := M) 2 (fun n => rfl) ?_
  refine Ev.step 1 (gs_3 rfl rfl (gf_s hM hv)) ?_
  refine Ev.step (pc' := 6) (ls' := [some (.ref 633), some (.int c), some (.int d), none, none]) (st' := [.int 0, .ref 635, .int c]) (M1 := M) 1 (fun n => rfl) ?_
  refine Ev.step 1 (gs_3 rfl rfl (ia_s hs h0)) ?_
  refine Ev.step 1 (gs_0 (st' := [.int (c - c / w * w)]) rfl rfl (show (if w = 0 then none else some _) = _ by rw [if_neg hw])) ?_
  refine Ev.step (pc' := 9) (ls' := [some (.ref 633), some (.int c), some (.int d), none, none]) (st' := [.int d, .int (c - c / w * w)]) (M1 := M) 1 (fun n => rfl) ?_
  refine Ev.call0 (ls0 := [some (.int d)]) (rest := [.int (c - c / w * w)]) (id := 192) (v1 := some (.int (eastI d))) (M1 := M) (fun n => rfl) ev_east ?_
  obtain ⟨x, ex⟩ : ∃ x, x = c - c / w * w + eastI d := ⟨_, rfl⟩
  obtain ⟨y, ey⟩ : ∃ y, y = c / w + southI d := ⟨_, rfl⟩
  unfold besI
  rw [← ex, ← ey]
  refine Ev.step (pc' := 16) (ls' := [some (.ref 633), some (.int c), some (.int d), some (.int x), none]) (st' := [.ref 633, .int c]) (M1 := M) 4 (fun n => by rw [ex]; rfl) ?_
  refine Ev.step 1 (gs_3 rfl rfl (gf_s hM hv)) ?_
  refine Ev.step (pc' := 20) (ls' := [some (.ref 633), some (.int c), some (.int d), some (.int x), none]) (st' := [.int 0, .ref 635, .int c]) (M1 := M) 1 (fun n => rfl) ?_
  refine Ev.step 1 (gs_3 rfl rfl (ia_s hs h0)) ?_
  refine Ev.step 1 (gs_0 (st' := [.int (c / w)]) rfl rfl (show (if w = 0 then none else some _) = _ by rw [if_neg hw])) ?_
  refine Ev.step (pc' := 23) (ls' := [some (.ref 633), some (.int c), some (.int d), some (.int x), none]) (st' := [.int d, .int (c / w)]) (M1 := M) 1 (fun n => rfl) ?_
  refine Ev.call0 (ls0 := [some (.int d)]) (rest := [.int (c / w)]) (id := 193) (v1 := some (.int (southI d))) (M1 := M) (fun n => rfl) ev_south ?_
  refine Ev.step (pc' := 32) (ls' := [some (.ref 633), some (.int c), some (.int d), some (.int x), some (.int y)]) (st' := [.ref 633, .int 0, .int x]) (M1 := M) 5 (fun n => by rw [ey]; rfl) ?_
  refine Ev.step 1 (gs_3 rfl rfl (gf_s hM hv)) ?_
  refine Ev.step (pc' := 36) (ls' := [some (.ref 633), some (.int c), some (.int d), some (.int x), some (.int y)]) (st' := [.int 0, .ref 635, .int 0, .int x]) (M1 := M) 1 (fun n => rfl) ?_
  refine Ev.step 1 (gs_3 rfl rfl (ia_s hs h0)) ?_
  refine Ev.step (pc' := 39) (ls' := [some (.ref 633), some (.int c), some (.int d), some (.int x), some (.int y)]) (st' := [.int (w - 1), .int 0, .int x]) (M1 := M) 2 (fun n => rfl) ?_
  refine Ev.call0 (ls0 := [some (.int x), some (.int 0), some (.int (w - 1))]) (rest := []) (id := 140) (v1 := some (.int (if x < 0 then 0 else if w - 1 < x then 0 else 1))) (M1 := M) (fun n => rfl) ev_isin ?_
  have out : Ev none (e + 2) 194 76 [some (.ref 633), some (.int c), some (.int d), some (.int x), some (.int y)] [] M (some (.int (-1))) M 0 0 := by
    refine Ev.step (pc' := 77) (ls' := [some (.ref 633), some (.int c), some (.int d), some (.int x), some (.int y)]) (st' := [.int (-1)]) (M1 := M) 1 (fun n => rfl) ?_
    exact Ev.ret (fun n => rfl)
  by_cases c1 : x < 0
  · rw [if_pos c1, if_pos c1]
    exact Ev.step (pc' := 76) (ls' := [some (.ref 633), some (.int c), some (.int d), some (.int x), some (.int y)]) (st' := []) (M1 := M) 1 (fun n => rfl) out
  rw [if_neg c1, if_neg c1]
  by_cases c2 : w - 1 < x
  · rw [if_pos c2, if_pos c2]
    exact Ev.step (pc' := 76) (ls' := [some (.ref 633), some (.int c), some (.int d), some (.int x), some (.int y)]) (st' := []) (M1 := M) 1 (fun n => rfl) out
  rw [if_neg c2, if_neg c2]
  refine Ev.step (pc' := 49) (ls' := [some (.ref 633), some (.int c), some (.int d), some (.int x), some (.int y)]) (st' := [.ref 633, .int 0, .int y]) (M1 := M) 4 (fun n => rfl) ?_
  refine Ev.step 1 (gs_3 rfl rfl (gf_s hM hv)) ?_
  refine Ev.step (pc' := 53) (ls' := [some (.ref 633), some (.int c), some (.int d), some (.int x), some (.int y)]) (st' := [.int 1, .ref 635, .int 0, .int y]) (M1 := M) 1 (fun n => rfl) ?_
  refine Ev.step 1 (gs_3 rfl rfl (ia_s hs h1)) ?_
  refine Ev.step (pc' := 56) (ls' := [some (.ref 633), some (.int c), some (.int d), some (.int x), some (.int y)]) (st' := [.int (h - 1), .int 0, .int y]) (M1 := M) 2 (fun n => rfl) ?_
  refine Ev.call0 (ls0 := [some (.int y), some (.int 0), some (.int (h - 1))]) (rest := []) (id := 140) (v1 := some (.int (if y < 0 then 0 else if h - 1 < y then 0 else 1))) (M1 := M) (fun n => rfl) ev_isin ?_
  by_cases c3 : y < 0
  · rw [if_pos c3, if_pos c3]
    exact Ev.step (pc' := 76) (ls' := [some (.ref 633), some (.int c), some (.int d), some (.int x), some (.int y)]) (st' := []) (M1 := M) 1 (fun n => rfl) out
  rw [if_neg c3, if_neg c3]
  by_cases c4 : h - 1 < y
  · rw [if_pos c4, if_pos c4]
    exact Ev.step (pc' := 76) (ls' := [some (.ref 633), some (.int c), some (.int d), some (.int x), some (.int y)]) (st' := []) (M1 := M) 1 (fun n => rfl) out
  rw [if_neg c4, if_neg c4]
  refine Ev.step (pc' := 63) (ls' := [some (.ref 633), some (.int c), some (.int d), some (.int x), some (.int y)]) (st' := [.ref 633]) (M1 := M) 2 (fun n => rfl) ?_
  refine Ev.step 1 (gs_3 rfl rfl (gf_s hM hv)) ?_
  refine Ev.step (pc' := 67) (ls' := [some (.ref 633), some (.int c), some (.int d), some (.int x), some (.int y)]) (st' := [.int 0, .ref 635]) (M1 := M) 1 (fun n => rfl) ?_
  refine Ev.step 1 (gs_3 rfl rfl (ia_s hs h0)) ?_
  refine Ev.step (pc' := 77) (ls' := [some (.ref 633), some (.int c), some (.int d), some (.int x), some (.int y)]) (st' := [.int (w * y + x)]) (M1 := M) 5 (fun n => rfl) ?_
  exact Ev.ret (fun n => rfl)
end BES
/-! THE FLAGS: what a fact about values and the memory means; 20 (c, d): beside(c, d) ≥ 0; 21: < 0 -/
def bsP (P : Int → Prop) (vs : List Int) (M : Mem) : Prop := ∃ (c d w h : Int32) (l : List Int32), vs = [c.toInt, d.toInt] ∧ gNth M 635 = some (.inl (1, .inl l)) ∧ gAt l 0 = some w ∧ gAt l 1 = some h ∧ P (besI w h c d).toInt
/-- the steps of a line, from place k on, with n answers on the pile -/
def okS : Nat → List Int32 → Nat → Int → Prop
  | 0, _, _, _ => True
  | m + 1, l, k, n => ∃ w, gNth l k = some w ∧ ((w = 20 ∧ 1 ≤ n ∧ okS m l (k + 1) n) ∨ (w ≠ 20 ∧ (w = 21 ∨ w = 22) ∧ 2 ≤ n ∧ okS m l (k + 1) (n - 1)) ∨ (w ≠ 20 ∧ w ≠ 21 ∧ w ≠ 22 ∧ n < 60 ∧ okS m l (k + 1) (n + 1)))
/-- a line is well formed -/
def lnP (vs : List Int) (M : Mem) : Prop := ∃ (x f t : Int32) (lf lt ls : List Int32), vs = [x.toInt] ∧ gNth M 643 = some (.inl (1, .inl lf)) ∧ gNth M 644 = some (.inl (1, .inl lt)) ∧ gNth M 645 = some (.inl (1, .inl ls)) ∧ gAt lf x = some f ∧ gAt lt x = some t ∧ (f = t ∨ ∃ m k : Nat, f.toInt + (m : Int) = t.toInt ∧ (k : Int) = 200 * (x / 16).toInt + f.toInt ∧ okS m ls k 0)
/-- every line below lineMany of each text but the last is well formed -/
def P24 (M : Mem) : Prop := ∃ lm lf lt ls : List Int32, gNth M 639 = some (.inl (1, .inl lm)) ∧ gNth M 643 = some (.inl (1, .inl lf)) ∧ gNth M 644 = some (.inl (1, .inl lt)) ∧ gNth M 645 = some (.inl (1, .inl ls)) ∧ ∀ (i : Nat) (v : Int32), gNth lm i = some v → i ≤ 6 → v.toInt ≤ 16 ∧ ∀ j : Nat, 16 * i ≤ j → (j : Int) < 16 * (i : Int) + v.toInt → ∃ f t, gNth lf j = some f ∧ gNth lt j = some t ∧ (f = t ∨ ∃ m k : Nat, f.toInt + (m : Int) = t.toInt ∧ (k : Int) = 200 * (i : Int) + f.toInt ∧ okS m ls k 0)
/-- someone walks -/
def P26 (M : Mem) : Prop := ∃ (t : Nat) (l : List Int32) (v : Int32), gNth M 635 = some (.inl (t, .inl l)) ∧ gNth l 157 = some v ∧ 1 ≤ v.toInt
/-- a wish that is has an 'every' of at least 1 -/
def evS (l : List Int32) : Prop := ∀ p : Nat, 13 ≤ p → p < 157 → (p - 13) % 6 = 3 → ∀ y, gNth l (p + 2) = some y → 1 ≤ y.toInt → ∃ e : Int32, gNth l p = some e ∧ 1 ≤ e.toInt
/-- doors are cells of the map, and unlike -/
def dsS (l : List Int32) : Prop := ∀ w h n : Int32, gNth l 0 = some w → gNth l 1 = some h → gNth l 2 = some n → n.toInt ≤ 9 ∧ ∀ i j : Nat, (i : Int) < n.toInt → (j : Int) < n.toInt → ∃ a b : Int32, gNth l (3 + i) = some a ∧ gNth l (3 + j) = some b ∧ a.toInt < w.toInt * h.toInt ∧ (i ≠ j → a ≠ b)
def P28 (M : Mem) : Prop := ∃ (t : Nat) (l : List Int32), gNth M 635 = some (.inl (t, .inl l)) ∧ evS l ∧ dsS l
noncomputable def sS : List SG := match gNth sG 63 with
  | some (.inr (_, _, .inl sg)) => sg
  | _ => []
/-- a row that may be s -/
def goodS (l : List Int32) : Prop := l.length = 2314 ∧ (∀ i y, gNth l i = some y → ∃ p : Iv, sgAt sS i = some p ∧ p.1 ≤ y.toInt ∧ y.toInt ≤ p.2) ∧ evS l ∧ dsS l
def P30 (M : Mem) : Prop := ∃ (t : Nat) (l : List Int32), gNth M 637 = some (.inl (t, .inl l)) ∧ goodS l
def P32 (M : Mem) : Prop := ∃ (t t2 : Nat) (l lb : List Int32), gNth M 636 = some (.inl (t, .inl l)) ∧ gNth M 638 = some (.inl (t2, .inl lb)) ∧ ∀ (k : Nat) (b : Int32), gNth lb k = some b → b ≠ 0 → ∃ l2, goodS l2 ∧ ∀ i : Nat, i < 2314 → gNth l (2314 * k + i) = gNth l2 i
def mB (x : Int32) : Nat := (2147483647 - x.toInt).toNat
def mI (x : Int32) : Nat := (x.toInt + 2147483648).toNat
/-- the measure of a row -/
def msP (a : Nat) (f : Int32 → Nat) (P : Nat → Prop) (M : Mem) : Prop := ∃ (t : Nat) (l : List Int32), gNth M a = some (.inl (t, .inl l)) ∧ P ((l.map f).sum)
def P62 (vs : List Int) (M : Mem) : Prop := ∃ (t : Nat) (l : List Int32) (x : Int32) (i : Nat), vs = [(i : Int), (x &&& 255).toInt] ∧ gNth M 634 = some (.inl (t, .inl l)) ∧ gNth l i = some x
def P64 (vs : List Int) (M : Mem) : Prop := ∃ (t : Nat) (l : List Int32) (x : Int32) (i : Nat), vs = [(i : Int)] ∧ gNth M 655 = some (.inl (t, .inl l)) ∧ gNth l i = some x ∧ 1 ≤ x.toInt
def prI (k : Int32) : Int32 := if k = 0 then 21 else if k = 2 then 21 else 1
def P66 (vs : List Int) (M : Mem) : Prop := ∃ (t : Nat) (l : List Int32) (k c : Int32), vs = [c.toInt, (prI k).toInt] ∧ gNth M 635 = some (.inl (t, .inl l)) ∧ gAt l (522 + 7 * c + 0) = some k
/-- a walker stands on a cell -/
def cge (M : Mem) (b : Nat) : Prop := ∃ us x, gNth M b = some (.inr (8, us)) ∧ gNth us 0 = some (.int x) ∧ 0 ≤ x.toInt
/-- unlike -/
def unl (l : List (Option Nat)) : Prop := ∀ j k b, gNth l j = some (some b) → gNth l k = some (some b) → j = k
/-- a land's walkers: its row, unlike ones, its own; those that walk stand on cells -/
def WK (a : Nat) (M : Mem) : Prop := ∃ (vl : List Value) (l : List (Option Nat)) (n : Int32), gNth M a = some (.inr (1, vl)) ∧ gNth vl 14 = some (.ref (a + 11)) ∧ gNth vl 15 = some (.int n) ∧ gNth M (a + 11) = some (.inl (6, .inr (.inr l))) ∧ unl l ∧ (∀ k b, gNth l k = some (some b) → a + 36 ≤ b ∧ b < a + 96) ∧ ∀ k, k < n.toInt.toNat → ∃ b, gNth l k = some (some b) ∧ cge M b
def P34 (M : Mem) : Prop := ∀ a, a ∈ [8, 243, 345, 441, 537] → WK a M
def FLm (m x : Nat) (vs : List Int) (M : Mem) : Prop := match x with
  | 20 => bsP (fun y => 0 ≤ y) vs M
  | 21 => bsP (fun y => y < 0) vs M
  | 22 => lnP vs M
  | 24 => P24 M
  | 26 => P26 M
  | 28 => P28 M
  | 30 => P30 M
  | 32 => P32 M
  | 40 => msP 650 mB (fun s => s < m) M
  | 42 => msP 650 mB (fun s => s ≤ m) M
  | 44 => msP 654 mI (fun s => s < m) M
  | 46 => msP 654 mI (fun s => s ≤ m) M
  | 48 => msP 655 mI (fun s => s < m) M
  | 50 => msP 655 mI (fun s => s ≤ m) M
  | 62 => P62 vs M
  | 64 => P64 vs M
  | 66 => P66 vs M
  | 34 => P34 M
  | _ => False
abbrev FL0 : Nat → List Int → Mem → Prop := FLm 0
theorem FLm_inv {m x : Nat} {vs : List Int} {M : Mem} (h : FLm m x vs M) : x = 20 ∨ x = 21 ∨ x = 22 ∨ x = 24 ∨ x = 26 ∨ x = 28 ∨ x = 30 ∨ x = 32 ∨ x = 40 ∨ x = 42 ∨ x = 44 ∨ x = 46 ∨ x = 48 ∨ x = 50 ∨ x = 62 ∨ x = 64 ∨ x = 66 ∨ x = 34 := by
  unfold FLm at h
  split at h <;> first | exact h.elim | decide
theorem fl0_20 {m : Nat} {vs : List Int} {M : Mem} (h : FLm m 20 vs M) : bsP (fun y => 0 ≤ y) vs M := h
theorem fl0_21 {m : Nat} {vs : List Int} {M : Mem} (h : FLm m 21 vs M) : bsP (fun y => y < 0) vs M := h
theorem fl0_22 {m : Nat} {vs : List Int} {M : Mem} (h : FLm m 22 vs M) : lnP vs M := h
theorem fl0_24 {m : Nat} {vs : List Int} {M : Mem} (h : FLm m 24 vs M) : P24 M := h
theorem fl0_26 {m : Nat} {vs : List Int} {M : Mem} (h : FLm m 26 vs M) : P26 M := h
theorem fl0_28 {m : Nat} {vs : List Int} {M : Mem} (h : FLm m 28 vs M) : P28 M := h
theorem fl0_30 {m : Nat} {vs : List Int} {M : Mem} (h : FLm m 30 vs M) : P30 M := h
theorem fl0_32 {m : Nat} {vs : List Int} {M : Mem} (h : FLm m 32 vs M) : P32 M := h
theorem fl0_62 {m : Nat} {vs : List Int} {M : Mem} (h : FLm m 62 vs M) : P62 vs M := h
theorem fl0_66 {m : Nat} {vs : List Int} {M : Mem} (h : FLm m 66 vs M) : P66 vs M := h
theorem fl0_34 {m : Nat} {vs : List Int} {M : Mem} (h : FLm m 34 vs M) : P34 M := h
theorem fl0_64 {m : Nat} {vs : List Int} {M : Mem} (h : FLm m 64 vs M) : P64 vs M := h
/-- the measure is asked by some flags alone -/
theorem FLm_m {m m2 x : Nat} {vs : List Int} {M : Mem} (hx : (Nat.ble 40 x && Nat.ble x 50) = false) (h : FLm m x vs M) : FLm m2 x vs M := by
  rcases FLm_inv h with rfl | rfl | rfl | rfl | rfl | rfl | rfl | rfl | rfl | rfl | rfl | rfl | rfl | rfl | rfl | rfl | rfl | rfl <;> first | exact h | exact absurd hx (by decide)
def dp0 : Nat → Md := fun x => cond (Nat.beq x 34) [(1, 14), (1, 15), (8, 0), (1019, 0)] <| cond (Nat.beq x 22) [(1071, 0), (1072, 0), (1073, 0)] (cond (Nat.beq x 24) [(1067, 0), (1071, 0), (1072, 0), (1073, 0)] (cond (Nat.beq x 30) [(1065, 0)] (cond (Nat.beq x 32) [(1064, 0), (1066, 0)] (cond (Nat.beq x 62) [(1062, 0)] (cond (Nat.beq x 64) [(1083, 0)] (cond (Nat.beq x 40 || Nat.beq x 42) [(1078, 0)] (cond (Nat.beq x 44 || Nat.beq x 46) [(1082, 0)] (cond (Nat.beq x 48 || Nat.beq x 50) [(1083, 0)] [(1063, 0)]))))))))
set_option maxRecDepth 100000 in
theorem sT_635 : gNth sT 635 = some 63 := by decide +kernel
theorem bsP.frm {P : Int → Prop} {vs : List Int} {md : Md} {M M' : Mem} (hF : Frm sT md M M') (hm : (1063, 0) ∉ md) (h : bsP P vs M) : bsP P vs M' := by
  obtain ⟨c, d, w, h2, l, e1, e2, e3, e4, e5⟩ := h
  obtain ⟨x', f1, f2⟩ := hF.2.2 _ _ _ e2
  have f3 := f2 (fun g hg => by
    rw [sT_635] at hg
    cases hg
    exact hm)
  subst f3
  exact ⟨c, d, w, h2, l, e1, f1, e3, e4, e5⟩
theorem row_frm {a g t : Nat} {y : AC} {md : Md} {M M' : Mem} (hF : Frm sT md M M') (hg : gNth sT a = some g) (hm : (1000 + g, 0) ∉ md) (h : gNth M a = some (.inl (t, y))) : gNth M' a = some (.inl (t, y)) := by
  obtain ⟨x', f1, f2⟩ := hF.2.2 _ _ _ h
  have f3 := f2 (fun g2 hg2 => by
    rw [hg] at hg2
    cases hg2
    exact hm)
  rw [← f3]
  exact f1
set_option maxRecDepth 100000 in
theorem sT_643 : gNth sT 643 = some 71 := by decide +kernel
set_option maxRecDepth 100000 in
theorem sT_644 : gNth sT 644 = some 72 := by decide +kernel
set_option maxRecDepth 100000 in
theorem sT_645 : gNth sT 645 = some 73 := by decide +kernel
set_option maxRecDepth 100000 in
theorem sT_639 : gNth sT 639 = some 67 := by decide +kernel
set_option maxRecDepth 100000 in
theorem sT_more : gNth sT 637 = some 65 ∧ gNth sT 636 = some 64 ∧ gNth sT 638 = some 66 ∧ gNth sT 634 = some 62 ∧ gNth sT 650 = some 78 ∧ gNth sT 654 = some 82 ∧ gNth sT 655 = some 83 := by refine ⟨?_, ?_, ?_, ?_, ?_, ?_, ?_⟩ <;> decide +kernel
theorem msP.frm {a g : Nat} {f : Int32 → Nat} {P : Nat → Prop} {md : Md} {M M' : Mem} (hF : Frm sT md M M') (hg : gNth sT a = some g) (hm : (1000 + g, 0) ∉ md) (h : msP a f P M) : msP a f P M' := by
  obtain ⟨t, l, e1, e2⟩ := h
  exact ⟨t, l, row_frm hF hg hm e1, e2⟩
set_option maxRecDepth 100000 in
theorem sT_wr : gNth sT (8 + 11) = some 19 ∧ gNth sT (243 + 11) = some 19 ∧ gNth sT (345 + 11) = some 19 ∧ gNth sT (441 + 11) = some 19 ∧ gNth sT (537 + 11) = some 19 := by refine ⟨?_, ?_, ?_, ?_, ?_⟩ <;> decide +kernel
theorem ld_all {a : Nat} (h : a ∈ [8, 243, 345, 441, 537]) : a = 8 ∨ a = 243 ∨ a = 345 ∨ a = 441 ∨ a = 537 := by
  simpa using h
theorem ld_row {a : Nat} (h : a ∈ [8, 243, 345, 441, 537]) : gNth sT (a + 11) = some 19 := by
  obtain ⟨h1, h2, h3, h4, h5⟩ := sT_wr
  rcases ld_all h with rfl | rfl | rfl | rfl | rfl
  · exact h1
  · exact h2
  · exact h3
  · exact h4
  · exact h5
theorem P34.frm {md : Md} {M M' : Mem} (hF : Frm sT md M M') (m1 : (1, 14) ∉ md) (m2 : (1, 15) ∉ md) (m3 : (8, 0) ∉ md) (m4 : (1019, 0) ∉ md) (h : P34 M) : P34 M' := by
  intro a ha
  obtain ⟨vl, l, n, e1, e2, e3, e4, e5, e6, e7⟩ := h a ha
  obtain ⟨vl', f1, f2, f3⟩ := hF.2.1 _ _ _ e1
  refine ⟨vl', l, n, f1, (f3 14 m1).trans e2, (f3 15 m2).trans e3, row_frm hF (ld_row ha) m4 e4, e5, e6, fun k hk => ?_⟩
  obtain ⟨b, g1, us, x, g2, g3, g4⟩ := e7 k hk
  obtain ⟨us', i1, i2, i3⟩ := hF.2.1 _ _ _ g2
  exact ⟨b, g1, us', x, i1, (i3 0 m3).trans g3, g4⟩
theorem P34.fld {x a c k : Nat} {us : List Value} {w : Value} {M : Mem} (hk : kfP x a c k w) (hM : gNth M a = some (.inr (c, us))) (h : P34 M) : P34 (gPut M a (.inr (c, gPut us k w))) := by
  intro a2 ha
  obtain ⟨vl, l, n, e1, e2, e3, e4, e5, e6, e7⟩ := h a2 ha
  have hrow : gNth (gPut M a (.inr (c, gPut us k w))) (a2 + 11) = some (.inl (6, .inr (.inr l))) := by
    rw [nth_put, if_neg (fun q => by rw [q.1, hM] at e4; cases e4)]
    exact e4
  have hl := gNth_lt _ _ _ hM
  rcases hk.2 with ⟨rfl, rfl, rfl⟩ | ⟨rfl, rfl, rfl⟩
  · refine ⟨vl, l, n, by rw [nth_put, if_neg (fun q => by rw [q.1, hM] at e1; cases e1)]; exact e1, e2, e3, hrow, e5, e6, fun k hk => ?_⟩
    obtain ⟨b, g1, us2, x2, g2, g3, g4⟩ := e7 k hk
    have hb := e6 k b g1
    refine ⟨b, g1, us2, x2, ?_, g3, g4⟩
    rw [nth_put, if_neg (fun q => by have := ld_all ha; omega)]
    exact g2
  · by_cases he : a2 = a
    · subst he
      cases e1.symm.trans hM
      refine ⟨gPut us 15 (.int 0), l, 0, by rw [nth_put, if_pos ⟨rfl, hl⟩], by rw [nth_put, if_neg (by omega)]; exact e2, by rw [nth_put, if_pos ⟨rfl, gNth_lt _ _ _ e3⟩], hrow, e5, e6, fun k hk => ?_⟩
      have : k < 0 := hk
      omega
    · refine ⟨vl, l, n, by rw [nth_put, if_neg (fun q => he q.1)]; exact e1, e2, e3, hrow, e5, e6, fun k hk => ?_⟩
      obtain ⟨b, g1, us2, x2, g2, g3, g4⟩ := e7 k hk
      refine ⟨b, g1, us2, x2, ?_, g3, g4⟩
      rw [nth_put, if_neg (fun q => by rw [q.1, hM] at g2; cases g2)]
      exact g2
theorem dp0_frm (m : Nat) (x : Nat) (vs : List Int) (md : Md) (M M' : Mem) (hF : Frm sT md M M') (hd : ∀ q ∈ md, q ∉ dp0 x) (h : FLm m x vs M) : FLm m x vs M' := by
  obtain ⟨g1, g2, g3, g4, g5, g6, g7⟩ := sT_more
  have nm : ∀ {q : Nat × Nat}, q ∈ dp0 x → q ∉ md := fun hq hm => hd _ hm hq
  rcases FLm_inv h with rfl | rfl | rfl | rfl | rfl | rfl | rfl | rfl | rfl | rfl | rfl | rfl | rfl | rfl | rfl | rfl | rfl | rfl
  · exact bsP.frm (P := fun y => 0 ≤ y) hF (nm (by decide)) h
  · exact bsP.frm (P := fun y => y < 0) hF (nm (by decide)) h
  · obtain ⟨x, f, t, lf, lt, ls, e1, e2, e3, e4, e5⟩ := fl0_22 h
    exact ⟨x, f, t, lf, lt, ls, e1, row_frm hF sT_643 (nm (by decide)) e2, row_frm hF sT_644 (nm (by decide)) e3, row_frm hF sT_645 (nm (by decide)) e4, e5⟩
  · obtain ⟨lm, lf, lt, ls, e1, e2, e3, e4, e5⟩ := fl0_24 h
    exact ⟨lm, lf, lt, ls, row_frm hF sT_639 (nm (by decide)) e1, row_frm hF sT_643 (nm (by decide)) e2, row_frm hF sT_644 (nm (by decide)) e3, row_frm hF sT_645 (nm (by decide)) e4, e5⟩
  · obtain ⟨t, l, v, e1, e2⟩ := fl0_26 h
    exact ⟨t, l, v, row_frm hF sT_635 (nm (by decide)) e1, e2⟩
  · obtain ⟨t, l, e1, e2⟩ := fl0_28 h
    exact ⟨t, l, row_frm hF sT_635 (nm (by decide)) e1, e2⟩
  · obtain ⟨t, l, e1, e2⟩ := fl0_30 h
    exact ⟨t, l, row_frm hF g1 (nm (by decide)) e1, e2⟩
  · obtain ⟨t, t2, l, lb, e1, e2, e3⟩ := fl0_32 h
    exact ⟨t, t2, l, lb, row_frm hF g2 (nm (by decide)) e1, row_frm hF g3 (nm (by decide)) e2, e3⟩
  · exact msP.frm (f := mB) (P := fun s => s < m) hF g5 (nm (by decide)) h
  · exact msP.frm (f := mB) (P := fun s => s ≤ m) hF g5 (nm (by decide)) h
  · exact msP.frm (f := mI) (P := fun s => s < m) hF g6 (nm (by decide)) h
  · exact msP.frm (f := mI) (P := fun s => s ≤ m) hF g6 (nm (by decide)) h
  · exact msP.frm (f := mI) (P := fun s => s < m) hF g7 (nm (by decide)) h
  · exact msP.frm (f := mI) (P := fun s => s ≤ m) hF g7 (nm (by decide)) h
  · obtain ⟨t, l, x, i, e1, e2, e3⟩ := fl0_62 h
    exact ⟨t, l, x, i, e1, row_frm hF g4 (nm (by decide)) e2, e3⟩
  · obtain ⟨t, l, x, i, e1, e2, e3⟩ := fl0_64 h
    exact ⟨t, l, x, i, e1, row_frm hF g7 (nm (by decide)) e2, e3⟩
  · obtain ⟨t, l, x, i, e1, e2, e3⟩ := fl0_66 h
    exact ⟨t, l, x, i, e1, row_frm hF sT_635 (nm (by decide)) e2, e3⟩
  · exact P34.frm hF (nm (by decide)) (nm (by decide)) (nm (by decide)) (nm (by decide)) (fl0_34 h)
theorem evS.put {l : List Int32} (h : evS l) {i : Nat} {v : Int32} (hi : i < 13 ∨ 157 ≤ i ∨ (13 ≤ i ∧ i < 157 ∧ (((i - 13) % 6 ≠ 3 ∧ (i - 13) % 6 ≠ 5) ∨ ((i - 13) % 6 = 3 ∧ 1 ≤ v.toInt) ∨ ((i - 13) % 6 = 5 ∧ (v.toInt ≤ 0 ∨ ∃ y : Int32, gNth l (i - 2) = some y ∧ 1 ≤ y.toInt))))) : evS (gPut l i v) := by
  intro p p1 p2 p3 y hy y1
  rw [nth_put] at hy ⊢
  by_cases e1 : p + 2 = i ∧ i < l.length
  · rw [if_pos e1] at hy
    cases hy
    rw [if_neg (by omega)]
    obtain ⟨e1, e2⟩ := e1
    subst e1
    rcases hi with hi | hi | ⟨_, _, ⟨_, hi⟩ | ⟨hi, _⟩ | ⟨_, hi | hi⟩⟩
    · omega
    · omega
    · omega
    · omega
    · omega
    · obtain ⟨y, e3, e4⟩ := hi
      exact ⟨y, e3, e4⟩
  · rw [if_neg e1] at hy
    obtain ⟨e, q1, q2⟩ := h p p1 p2 p3 y hy y1
    by_cases e2 : p = i ∧ i < l.length
    · rw [if_pos e2]
      obtain ⟨e2, e4⟩ := e2
      subst e2
      refine ⟨v, rfl, ?_⟩
      rcases hi with hi | hi | ⟨_, _, ⟨hi, _⟩ | ⟨_, hi⟩ | ⟨hi, _⟩⟩
      · omega
      · omega
      · exact absurd p3 hi
      · exact hi
      · omega
    · rw [if_neg e2]
      exact ⟨e, q1, q2⟩
theorem gAt_n {α : Type} {l : List α} {j : Nat} (hj : j < 2147483648) : gAt l (nI j) = gNth l j := by
  unfold gAt
  rw [show decide (nI j < 0) = false from decide_eq_false (nI_pos hj), nI_clamp hj]
  rfl
theorem dsS.put {l : List Int32} (h : dsS l) {i : Nat} {v : Int32} (hi : 12 ≤ i) : dsS (gPut l i v) := by
  intro w hh n h0 h1 h2
  rw [nth_put, if_neg (by omega)] at h0 h1 h2
  obtain ⟨n9, h⟩ := h w hh n h0 h1 h2
  refine ⟨n9, fun a b ha hb => ?_⟩
  obtain ⟨x, y, q1, q2, q3⟩ := h a b ha hb
  exact ⟨x, y, by rw [nth_put, if_neg (by omega)]; exact q1, by rw [nth_put, if_neg (by omega)]; exact q2, q3⟩
theorem sum_put {f : Int32 → Nat} {y v : Int32} : ∀ (l : List Int32) (i : Nat), gNth l i = some y → ((gPut l i v).map f).sum + f y = (l.map f).sum + f v := by
  intro l
  induction l with
  | nil => intro i h; cases h
  | cons x xs ih =>
    intro i h
    cases i with
    | zero =>
      have hx : x = y := Option.some.inj h
      subst hx
      show (f v :: xs.map f).sum + f x = (f x :: xs.map f).sum + f v
      rw [List.sum_cons, List.sum_cons]
      omega
    | succ i =>
      have := ih i h
      show (f x :: (gPut xs i v).map f).sum + f y = (f x :: xs.map f).sum + f v
      rw [List.sum_cons, List.sum_cons]
      omega
theorem mB_lt {x y : Int32} : (y.toInt ≤ x.toInt → mB x ≤ mB y) ∧ (y.toInt < x.toInt → mB x < mB y) := by
  have := i32_lt x
  have := i32_lt y
  unfold mB
  constructor <;> intro h <;> omega
theorem mI_lt {x y : Int32} : (x.toInt ≤ y.toInt → mI x ≤ mI y) ∧ (x.toInt < y.toInt → mI x < mI y) := by
  have := i32_lt x
  have := i32_lt y
  unfold mI
  constructor <;> intro h <;> omega
theorem msP.put {a t i : Nat} {f : Int32 → Nat} {P P2 : Nat → Prop} {M : Mem} {l : List Int32} {y v : Int32} (hM : gNth M a = some (.inl (t, .inl l))) (hy : gNth l i = some y) (hP : ∀ s s2, P s → s2 + f y = s + f v → P2 s2) (h : msP a f P M) : msP a f P2 (gPut M a (.inl (t, .inl (gPut l i v)))) := by
  obtain ⟨t2, l2, e1, e2⟩ := h
  cases e1.symm.trans hM
  exact ⟨t, _, by rw [nth_put, if_pos ⟨rfl, gNth_lt _ _ _ hM⟩], hP _ _ e2 (sum_put _ _ hy)⟩
theorem dp0_kp (m : Nat) (x : Nat) (vs : List Int) (M : Mem) (a t : Nat) (l : List Int32) (i : Nat) (v : Int32) (hk : kpP x a l i v.toInt) (hM : gNth M a = some (.inl (t, .inl l))) (h : FLm m x vs M) : FLm m x vs (gPut M a (.inl (t, .inl (gPut l i v)))) := by
  have hM2 : gNth (gPut M a (.inl (t, .inl (gPut l i v)))) a = some (.inl (t, .inl (gPut l i v))) := by
    rw [nth_put, if_pos ⟨rfl, gNth_lt _ _ _ hM⟩]
  rcases hk with ⟨rfl, hk⟩ | ⟨hk, y, hy, hv⟩ | ⟨rfl, rfl, hv⟩ | ⟨rfl, hk, y, hy, hv⟩
  · rcases hk with ⟨hx, hi⟩ | ⟨rfl, hi⟩ | ⟨rfl, hi⟩
    · have hb : ∀ {P : Int → Prop}, bsP P vs M → bsP P vs (gPut M 635 (.inl (t, .inl (gPut l i v)))) := by
        rintro P ⟨c, d, w, h2, l2, e1, e2, e3, e4, e5⟩
        cases e2.symm.trans hM
        have o0 : (0 : Int32) = nI 0 := rfl
        have o1 : (1 : Int32) = nI 1 := rfl
        rw [o0, gAt_n (by decide)] at e3
        rw [o1, gAt_n (by decide)] at e4
        refine ⟨c, d, w, h2, _, e1, hM2, ?_, ?_, e5⟩
        · rw [o0, gAt_n (by decide), nth_put, if_neg (by omega)]
          exact e3
        · rw [o1, gAt_n (by decide), nth_put, if_neg (by omega)]
          exact e4
      rcases hx with rfl | rfl
      · exact hb (fl0_20 h)
      · exact hb (fl0_21 h)
    · obtain ⟨t2, l2, y, e1, e2, e3⟩ := fl0_26 h
      cases e1.symm.trans hM
      exact ⟨t, _, y, hM2, by rw [nth_put, if_neg (fun q => hi q.1.symm)]; exact e2, e3⟩
    · obtain ⟨t2, l2, e1, e2, e3⟩ := fl0_28 h
      cases e1.symm.trans hM
      rcases hi with hi | hi | hi
      · exact ⟨t, _, hM2, e2.put (Or.inl (by omega)), e3.put (by omega)⟩
      · exact ⟨t, _, hM2, e2.put (Or.inr (Or.inl hi)), e3.put (by omega)⟩
      · exact ⟨t, _, hM2, e2.put (Or.inr (Or.inr hi)), e3.put (by have := hi.1; omega)⟩
  · rcases hk with ⟨rfl, rfl | rfl⟩ | ⟨rfl, rfl | rfl⟩
    · refine msP.put (f := mI) (P := fun s => s < m) (P2 := fun s => s < m) hM hy (fun s s2 h1 h2 => ?_) h
      have := (mI_lt (x := v) (y := y)).1 hv
      omega
    · refine msP.put (f := mI) (P := fun s => s ≤ m) (P2 := fun s => s ≤ m) hM hy (fun s s2 h1 h2 => ?_) h
      have := (mI_lt (x := v) (y := y)).1 hv
      omega
    · refine msP.put (f := mI) (P := fun s => s < m) (P2 := fun s => s < m) hM hy (fun s s2 h1 h2 => ?_) h
      have := (mI_lt (x := v) (y := y)).1 hv
      omega
    · refine msP.put (f := mI) (P := fun s => s ≤ m) (P2 := fun s => s ≤ m) hM hy (fun s s2 h1 h2 => ?_) h
      have := (mI_lt (x := v) (y := y)).1 hv
      omega
  · obtain ⟨t2, l2, x, j, e1, e2, e3, e4⟩ := fl0_64 h
    cases e2.symm.trans hM
    by_cases hj : j = i
    · subst hj
      exact ⟨t, _, v, j, e1, hM2, by rw [nth_put, if_pos ⟨rfl, gNth_lt _ _ _ e3⟩], hv⟩
    · exact ⟨t, _, x, j, e1, hM2, by rw [nth_put, if_neg (fun q => hj q.1)]; exact e3, e4⟩
  · rcases hk with rfl | rfl
    · refine msP.put (f := mB) (P := fun s => s < m) (P2 := fun s => s < m) hM hy (fun s s2 h1 h2 => ?_) h
      have := (mB_lt (x := v) (y := y)).1 hv
      omega
    · refine msP.put (f := mB) (P := fun s => s ≤ m) (P2 := fun s => s ≤ m) hM hy (fun s s2 h1 h2 => ?_) h
      have := (mB_lt (x := v) (y := y)).1 hv
      omega
theorem dp0_up (m : Nat) (x : Nat) (vs : List Int) (M : Mem) (a t : Nat) (l : List Int32) (i : Nat) (v : Int32) (hk : upP x a l i v.toInt) (hM : gNth M a = some (.inl (t, .inl l))) (h : FLm m x vs M) : FLm m (x - 2) vs (gPut M a (.inl (t, .inl (gPut l i v)))) := by
  rcases hk with ⟨⟨rfl, rfl⟩ | ⟨rfl, rfl⟩, y, hy, hv⟩ | ⟨rfl, rfl, y, hy, hv⟩
  · refine msP.put (f := mI) (P := fun s => s ≤ m) (P2 := fun s => s < m) hM hy (fun s s2 h1 h2 => ?_) h
    have := (mI_lt (x := v) (y := y)).2 hv
    omega
  · refine msP.put (f := mI) (P := fun s => s ≤ m) (P2 := fun s => s < m) hM hy (fun s s2 h1 h2 => ?_) h
    have := (mI_lt (x := v) (y := y)).2 hv
    omega
  · refine msP.put (f := mB) (P := fun s => s ≤ m) (P2 := fun s => s < m) hM hy (fun s s2 h1 h2 => ?_) h
    have := (mB_lt (x := v) (y := y)).2 hv
    omega
theorem dpm_ok (m : Nat) : depOK sT dp0 (FLm m) := by
  refine ⟨dp0_frm m, dp0_kp m, dp0_up m, fun M t l i y x h hM i1 i2 i3 hy hy1 hx => ?_, fun M t l i x h hM hx => ?_, fun x vs M a c k us w hk hM h => by obtain rfl := hk.1; exact P34.fld hk hM (fl0_34 h)⟩
  · obtain ⟨t2, l2, e1, e2, _⟩ := fl0_28 h
    cases e1.symm.trans hM
    obtain ⟨e, q1, q2⟩ := e2 i i1 i2 i3 y hy hy1
    cases q1.symm.trans hx
    exact q2
  · obtain ⟨t2, l2, x2, j, e1, e2, e3, e4⟩ := fl0_64 h
    cases e2.symm.trans hM
    have e5 : i = j := by
      have := (List.cons.inj e1).1
      omega
    subst e5
    cases e3.symm.trans hx
    exact e4
theorem dp0_ok : depOK sT dp0 FL0 := dpm_ok 0
theorem bs_no {vs : List Int} {M : Mem} (h : bsP (fun y => 0 ≤ y) vs M) (h' : bsP (fun y => y < 0) vs M) : False := by
  obtain ⟨c, d, w, h2, l, e1, e2, e3, e4, e5⟩ := h
  obtain ⟨c', d', w', h2', l', f1, f2, f3, f4, f5⟩ := h'
  rw [e1] at f1
  have g1 := (List.cons.inj f1).1
  have g2 := (List.cons.inj (List.cons.inj f1).2).1
  have g1 := Int32.toInt_inj.mp g1
  have g2 := Int32.toInt_inj.mp g2
  subst g1
  subst g2
  rw [e2] at f2
  cases f2
  rw [e3] at f3
  cases f3
  rw [e4] at f4
  cases f4
  exact Int.lt_irrefl _ (Int.lt_of_lt_of_le f5 e5)
theorem ctm_ok (m : Nat) : cfOK (FLm m) := by
  refine ⟨fun x vs M hx h2 h h' => ?_, fun M t l i v x h hM hv hi x1 x2 => ?_, fun M t l v hM hv h1 => ?_, fun x M k r r2 hx h h2 => ?_⟩
  · have e : x = 20 := by
      have e1 := FLm_inv h
      have e2 := FLm_inv h'
      omega
    subst e
    exact bs_no (fl0_20 h) (fl0_21 h')
  · obtain ⟨lm, lf, lt, ls, e1, e2, e3, e4, e5⟩ := fl0_24 h
    cases e1.symm.trans hM
    obtain ⟨v16, e5⟩ := e5 i v hv hi
    obtain ⟨j, rfl⟩ : ∃ j : Nat, x = (j : Int) := ⟨x.toNat, by omega⟩
    obtain ⟨f, tt, q1, q2, q3⟩ := e5 j (by omega) x2
    have hj : j < 2147483648 := by omega
    have o16 : (16 : Int32).toInt = 16 := rfl
    have d1 : (nI j / 16).toInt = (i : Int) := by
      have : (nI j / 16).toInt = (nI j).toInt.tdiv (16 : Int32).toInt := Int32.toInt_div_of_ne_right _ _ (by decide)
      rw [this, o16, nI_toInt hj, Int.tdiv_eq_ediv_of_nonneg (by omega)]
      omega
    refine ⟨nI j, f, tt, lf, lt, ls, by rw [nI_toInt hj], e2, e3, e4, ?_, ?_, ?_⟩
    · rw [gAt_n hj]; exact q1
    · rw [gAt_n hj]; exact q2
    · rw [d1]; exact q3
  · exact ⟨t, l, v, hM, hv, h1⟩
  · rcases hx with rfl | rfl
    rotate_left
    · obtain ⟨t, l, x, i, e1, e2, e3⟩ := fl0_66 h
      obtain ⟨t2, l2, x2, i2, f1, f2, f3⟩ := fl0_66 h2
      cases e2.symm.trans f2
      have k1 := (List.cons.inj e1).1
      have k2 := (List.cons.inj f1).1
      have e5 : i = i2 := Int32.toInt_inj.mp (by omega)
      subst e5
      cases e3.symm.trans f3
      rw [(List.cons.inj (List.cons.inj e1).2).1, (List.cons.inj (List.cons.inj f1).2).1]
    obtain ⟨t, l, x, i, e1, e2, e3⟩ := fl0_62 h
    obtain ⟨t2, l2, x2, i2, f1, f2, f3⟩ := fl0_62 h2
    cases e2.symm.trans f2
    have k1 := (List.cons.inj e1).1
    have k2 := (List.cons.inj f1).1
    have e5 : i = i2 := by omega
    subst e5
    cases e3.symm.trans f3
    rw [(List.cons.inj (List.cons.inj e1).2).1, (List.cons.inj (List.cons.inj f1).2).1]
theorem ct0_ok : cfOK FL0 := ctm_ok 0
theorem i32_z {x : Int32} : x < 0 ↔ x.toInt < 0 := by rw [Int32.lt_iff_toInt_lt]; rfl
theorem besI_in {w h c d : Int32} (w1 : 4 ≤ w.toInt) (w2 : w.toInt ≤ 16) (h1 : 4 ≤ h.toInt) (h2 : h.toInt ≤ 16) : besI w h c d = -1 ∨ (0 ≤ (besI w h c d).toInt ∧ (besI w h c d).toInt ≤ 255) := by
  unfold besI
  obtain ⟨x, ex⟩ : ∃ x, x = c - c / w * w + eastI d := ⟨_, rfl⟩
  obtain ⟨y, ey⟩ : ∃ y, y = c / w + southI d := ⟨_, rfl⟩
  rw [← ex, ← ey]
  have o1 : (1 : Int32).toInt = 1 := rfl
  have ew : (w - 1).toInt = w.toInt - 1 := i32_sub (by omega) (by omega)
  have eh : (h - 1).toInt = h.toInt - 1 := i32_sub (by omega) (by omega)
  by_cases c1 : x < 0
  · rw [if_pos c1]; exact Or.inl rfl
  rw [if_neg c1]
  by_cases c2 : w - 1 < x
  · rw [if_pos c2]; exact Or.inl rfl
  rw [if_neg c2]
  by_cases c3 : y < 0
  · rw [if_pos c3]; exact Or.inl rfl
  rw [if_neg c3]
  by_cases c4 : h - 1 < y
  · rw [if_pos c4]; exact Or.inl rfl
  rw [if_neg c4]
  rw [i32_z] at c1 c3
  rw [Int32.lt_iff_toInt_lt] at c2 c4
  refine Or.inr ?_
  have m1 : 0 ≤ w.toInt * y.toInt := Int.mul_nonneg (by omega) (by omega)
  have m2 : w.toInt * y.toInt ≤ 16 * 15 := Int.mul_le_mul w2 (by omega) (by omega) (by omega)
  have e1 : (w * y).toInt = w.toInt * y.toInt := i32_mul (by omega) (by omega)
  have e2 : (w * y + x).toInt = w.toInt * y.toInt + x.toInt := by
    rw [← e1]
    exact i32_add (by omega) (by omega)
  rw [e2]
  constructor <;> omega
theorem gAt_0 {l : List Int32} : gAt l 0 = gNth l 0 := rfl
theorem gAt_1 {l : List Int32} : gAt l 1 = gNth l 1 := rfl
set_option maxRecDepth 100000 in
theorem sT_633 : gNth sT 633 = some 61 := by decide +kernel
set_option maxRecDepth 100000 in
theorem sU_63 : gNth sU 63 = some (some 635) := by decide +kernel
set_option maxRecDepth 100000 in
theorem sG_61 : (match gNth sG 61 with
  | some (.inl (11, fs)) => (match gNth fs 5 with
    | some (.inr 127) => true
    | _ => false)
  | _ => false) = true := by decide +kernel
set_option maxRecDepth 100000 in
theorem sG_63 : (match gNth sG 63 with
  | some (.inr (1, 2314, .inl sg)) => (match sgAt sg 0, sgAt sg 1 with
    | some (a, b), some (c, d) => decide (4 ≤ a) && decide (b ≤ 16) && decide (4 ≤ c) && decide (d ≤ 16)
    | _, _ => false)
  | _ => false) = true := by decide +kernel
/-- the memory's sizes of the reference's map -/
theorem TM.s_ref {M : Mem} (hT : TM sT sG M) : ∃ vs l w h, gNth M 633 = some (.inr (11, vs)) ∧ gNth vs 5 = some (.ref 635) ∧ gNth M 635 = some (.inl (1, .inl l)) ∧ gAt l 0 = some w ∧ gAt l 1 = some h ∧ 4 ≤ w.toInt ∧ w.toInt ≤ 16 ∧ 4 ≤ h.toInt ∧ h.toInt ≤ 16 := by
  have h1 := sG_61
  have h2 := sG_63
  cases e1 : gNth sG 61 with
  | none => rw [e1] at h1; exact absurd h1 (by decide)
  | some t => ?_
  cases e2 : gNth sG 63 with
  | none => rw [e2] at h2; exact absurd h2 (by decide)
  | some t2 => ?_
  rw [e1] at h1
  rw [e2] at h2
  obtain ⟨a1, b1, c1⟩ := hT.at sT_633 e1
  obtain ⟨a2, b2, c2⟩ := hT.at sT_635 e2
  have q1 : ∃ fs, t = .inl (11, fs) ∧ gNth fs 5 = some (.inr 127) := by
    revert h1
    split
    · rename_i fs
      intro h1
      revert h1
      split
      · rename_i he
        intro _
        exact ⟨_, (Option.some.inj ‹_›), he⟩
      · intro h; cases h
    · intro h; cases h
  obtain ⟨fs, rfl, e3⟩ := q1
  have q2 : ∃ sg p q, t2 = .inr (1, 2314, .inl sg) ∧ sgAt sg 0 = some p ∧ sgAt sg 1 = some q ∧ 4 ≤ p.1 ∧ p.2 ≤ 16 ∧ 4 ≤ q.1 ∧ q.2 ≤ 16 := by
    revert h2
    split
    · rename_i sg
      intro h2
      revert h2
      split
      · rename_i he hf
        intro h2
        simp only [Bool.and_eq_true, decide_eq_true_eq] at h2
        exact ⟨_, _, _, (Option.some.inj ‹_›), he, hf, h2.1.1.1, h2.1.1.2, h2.1.2, h2.2⟩
      · intro h; cases h
    · intro h; cases h
  obtain ⟨sg, p, q, rfl, p1, p2, p3, p4, p5, p6⟩ := q2
  obtain ⟨vs, rfl, v1, v2⟩ := c1
  obtain ⟨l, rfl, l1, l2⟩ := c2
  obtain ⟨v, v3, v4⟩ := v2 5 _ e3
  have v5 : v = .ref 635 := by
    rcases v4 with ⟨a, rfl, ha⟩ | ⟨hk, _⟩
    · rw [sU_ok _ _ _ ha sU_63]
    · exact absurd hk (by decide)
  subst v5
  have n0 : 0 < l.length := by omega
  have n1 : 1 < l.length := by omega
  have z0 : gNth l 0 = some l[0] := by rw [nth_eq, List.getElem?_eq_getElem n0]
  have z1 : gNth l 1 = some l[1] := by rw [nth_eq, List.getElem?_eq_getElem n1]
  obtain ⟨r, r1, r2, r3⟩ := l2 0 _ z0
  obtain ⟨r', s1, s2, s3⟩ := l2 1 _ z1
  rw [p1] at r1
  rw [p2] at s1
  cases r1
  cases s1
  exact ⟨vs, l, l[0], l[1], b1, v3, b2, z0, z1, by omega, by omega, by omega, by omega⟩
def kX11_beside : CN := (194, 2, [.inr 1900, .inl (.ofNat 0, .ofNat 255), .inl (.negSucc 2147483647, .ofNat 2147483647)], [], [], [], [(some (.inl (.negSucc 0, .negSucc 0)), [], [], [(21, [([(2, .ofNat 1)], .ofNat 0), ([(3, .ofNat 1)], .ofNat 0)])], []), (some (.inl (.ofNat 0, .ofNat 255)), [], [], [(20, [([(2, .ofNat 1)], .ofNat 0), ([(3, .ofNat 1)], .ofNat 0)])], [])])
set_option maxRecDepth 100000 in
theorem mR_194 : (gNth mRs 194).map (fun q => q.2.2.2.1) = some 5 := by decide +kernel
theorem bes_fl {r c d : Int32} {a : Value} {M : Mem} {x : Nat} (h : FL0 x [c.toInt, d.toInt] M) : flOK FL0 (.int r :: ([a, .int c, .int d] ++ [])) M (x, [([(2, .ofNat 1)], .ofNat 0), ([(3, .ofNat 1)], .ofNat 0)]) :=
  ⟨[c.toInt, d.toInt], Two.mk ⟨1 * c.toInt + 0, rfl, by show c.toInt = 1 * c.toInt + 0 + 0; omega⟩ (Two.mk ⟨1 * d.toInt + 0, rfl, by show d.toInt = 1 * d.toInt + 0 + 0; omega⟩ trivial), h⟩
theorem kX11_beside_ok : cnOK sT sG FL0 kX11_beside := by
  intro d M ws q hd hq ha _ hT
  have hm := mR_194
  have hq' : gNth mRs 194 = some q := hq
  rw [hq'] at hm
  have hm : q.2.2.2.1 = 5 := Option.some.inj hm
  obtain ⟨vs, l, w, h, m1, m2, m3, m4, m5, w1, w2, h1, h2⟩ := hT.s_ref
  obtain ⟨e, rfl⟩ : ∃ e, d = e + 2 := ⟨d - 2, by have : 2 ≤ d := hd; omega⟩
  rcases ws with _ | ⟨a, _ | ⟨b, _ | ⟨b2, _ | ⟨b3, r⟩⟩⟩⟩
  · exact ha.elim
  · exact ha.2.elim
  · exact ha.2.2.elim
  · obtain ⟨k1, ⟨c, rfl, c1, c2⟩, ⟨dd, rfl, d1, d2⟩, _⟩ := ha
    have k1 : a = .ref 633 := k1
    subst k1
    rw [hm]
    have hw : ¬ w = 0 := by
      intro hz
      rw [hz] at w1
      exact absurd w1 (by decide)
    refine ⟨some (.int (besI w h c dd)), M, ev_beside m1 m2 m3 m4 m5 hw, hT, Frm.refl M, ?_⟩
    rcases besI_in (c := c) (d := dd) w1 w2 h1 h2 with hb | ⟨hb, hb2⟩
    · refine ⟨_, List.mem_cons_self .., ⟨⟨besI w h c dd, rfl, ?_, ?_⟩, fun q hq => (by cases hq), [], trivial, ?_, fun q hq => (by cases hq)⟩, fun h => absurd (show (194 : Nat) = 205 from h) (by decide)⟩
      · rw [hb]; decide
      · rw [hb]; decide
      · intro f hf
        cases List.mem_singleton.mp hf
        exact bes_fl (show FL0 21 [c.toInt, dd.toInt] M from ⟨c, dd, w, h, l, rfl, m3, m4, m5, by rw [hb]; decide⟩)
    · refine ⟨_, List.mem_cons_of_mem _ (List.mem_cons_self ..), ⟨⟨besI w h c dd, rfl, hb, hb2⟩, fun q hq => (by cases hq), [], trivial, ?_, fun q hq => (by cases hq)⟩, fun h => absurd (show (194 : Nat) = 205 from h) (by decide)⟩
      intro f hf
      cases List.mem_singleton.mp hf
      exact bes_fl (show FL0 20 [c.toInt, dd.toInt] M from ⟨c, dd, w, h, l, rfl, m3, m4, m5, hb⟩)
  · exact ha.2.2.2.elim
