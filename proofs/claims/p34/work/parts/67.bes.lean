/-! BY HAND: the reference's beside(c, d), as a value -/
def eastI (d : Int32) : Int32 := if d - d / 4 * 4 = 0 then 0 else if d < 4 then 1 else -1
def southI (d : Int32) : Int32 := if d - d / 4 * 4 = 2 then 0 else if d < 3 then -1 else if 5 < d then -1 else 1
def besI (w h c d : Int32) : Int32 := if c - c / w * w + eastI d < 0 then -1 else if w - 1 < c - c / w * w + eastI d then -1 else if c / w + southI d < 0 then -1 else if h - 1 < c / w + southI d then -1 else w * (c / w + southI d) + (c - c / w * w + eastI d)
theorem ev_isin {d : Nat} {M : Mem} {x lo hi : Int32} : Ev none d 140 0 [some (.int x), some (.int lo), some (.int hi)] [] M (some (.int (if x < lo then 0 else if hi < x then 0 else 1))) M 0 0 := by
  refine Ev.step (pc' := if x < lo then 14 else 5) (ls' := [some (.int x), some (.int lo), some (.int hi)]) (st' := []) (M1 := M) 3 (fun n => rfl) ?_
  by_cases h1 : x < lo
  · rw [if_pos h1, if_pos h1]
    refine Ev.step (pc' := 15) (ls' := [some (.int x), some (.int lo), some (.int hi)]) (st' := [.int 0]) (M1 := M) 1 (fun n => rfl) ?_
    exact Ev.ret (fun n => rfl)
  · rw [if_neg h1, if_neg h1]
    refine Ev.step (pc' := if hi < x then 14 else 10) (ls' := [some (.int x), some (.int lo), some (.int hi)]) (st' := []) (M1 := M) 3 (fun n => rfl) ?_
    by_cases h2 : hi < x
    · rw [if_pos h2, if_pos h2]
      refine Ev.step (pc' := 15) (ls' := [some (.int x), some (.int lo), some (.int hi)]) (st' := [.int 0]) (M1 := M) 1 (fun n => rfl) ?_
      exact Ev.ret (fun n => rfl)
    · rw [if_neg h2, if_neg h2]
      refine Ev.step (pc' := 15) (ls' := [some (.int x), some (.int lo), some (.int hi)]) (st' := [.int 1]) (M1 := M) 2 (fun n => rfl) ?_
      exact Ev.ret (fun n => rfl)
theorem ev_east {e : Nat} {M : Mem} {d : Int32} : Ev none e 192 0 [some (.int d)] [] M (some (.int (eastI d))) M 0 0 := by
  refine Ev.step (pc' := if d - d / 4 * 4 = 0 then 6 else 10) (ls' := [some (.int d)]) (st' := []) (M1 := M) 4 (fun n => rfl) ?_
  unfold eastI
  by_cases h1 : d - d / 4 * 4 = 0
  · rw [if_pos h1, if_pos h1]
    refine Ev.step (pc' := 20) (ls' := [some (.int d)]) (st' := [.int 0]) (M1 := M) 2 (fun n => rfl) ?_
    exact Ev.ret (fun n => rfl)
  · rw [if_neg h1, if_neg h1]
    refine Ev.step (pc' := if (4 : Int32) ≤ d then 19 else 15) (ls' := [some (.int d)]) (st' := []) (M1 := M) 3 (fun n => rfl) ?_
    by_cases h2 : d < 4
    · have h3 : ¬ (4 : Int32) ≤ d := by rw [Int32.le_iff_toInt_le]; rw [Int32.lt_iff_toInt_lt] at h2; omega
      rw [if_neg h3, if_pos h2]
      refine Ev.step (pc' := 20) (ls' := [some (.int d)]) (st' := [.int 1]) (M1 := M) 2 (fun n => rfl) ?_
      exact Ev.ret (fun n => rfl)
    · have h3 : (4 : Int32) ≤ d := by rw [Int32.le_iff_toInt_le]; rw [Int32.lt_iff_toInt_lt] at h2; omega
      rw [if_pos h3, if_neg h2]
      refine Ev.step (pc' := 20) (ls' := [some (.int d)]) (st' := [.int (-1)]) (M1 := M) 1 (fun n => rfl) ?_
      exact Ev.ret (fun n => rfl)
theorem Ev.call0 {sc : Sta} {d me pc : Nat} {ls ls0 : Lo} {st rest : List Value} {M M1 M' : Mem} {v v1 : Option Value} {c s id : Nat} (h : ∀ n, go sc (n + 1) (d + 1) me pc ls st M = gThen (go sc n d id 0 ls0 [] M) (fun v M' c s => gAdd c s (go sc n (d + 1) me (pc + 3) ls (v.toList ++ rest) M'))) (h1 : Ev sc d id 0 ls0 [] M v1 M1 0 0) (h2 : Ev sc (d + 1) me (pc + 3) ls (v1.toList ++ rest) M1 v M' c s) : Ev sc (d + 1) me pc ls st M v M' c s := (Ev.call h h1 h2).cast (Nat.zero_add _) (Nat.zero_add _)
theorem ev_south {e : Nat} {M : Mem} {d : Int32} : Ev none (e + 1) 193 0 [some (.int d)] [] M (some (.int (southI d))) M 0 0 := by
  refine Ev.step (pc' := if d - d / 4 * 4 = 2 then 7 else 11) (ls' := [some (.int d)]) (st' := []) (M1 := M) 5 (fun n => rfl) ?_
  unfold southI
  by_cases h1 : d - d / 4 * 4 = 2
  · rw [if_pos h1, if_pos h1]
    refine Ev.step (pc' := 25) (ls' := [some (.int d)]) (st' := [.int 0]) (M1 := M) 2 (fun n => rfl) ?_
    exact Ev.ret (fun n => rfl)
  · rw [if_neg h1, if_neg h1]
    refine Ev.step (pc' := 14) (ls' := [some (.int d)]) (st' := [.int 5, .int 3, .int d]) (M1 := M) 3 (fun n => rfl) ?_
    refine Ev.call0 (ls0 := [some (.int d), some (.int 3), some (.int 5)]) (rest := []) (id := 140) (v1 := some (.int (if d < 3 then 0 else if 5 < d then 0 else 1))) (M1 := M) (fun n => rfl) ev_isin ?_
    by_cases h2 : d < 3
    · rw [if_pos h2, if_pos h2]
      refine Ev.step (pc' := 25) (ls' := [some (.int d)]) (st' := [.int (-1)]) (M1 := M) 2 (fun n => rfl) ?_
      exact Ev.ret (fun n => rfl)
    · rw [if_neg h2, if_neg h2]
      by_cases h3 : 5 < d
      · rw [if_pos h3, if_pos h3]
        refine Ev.step (pc' := 25) (ls' := [some (.int d)]) (st' := [.int (-1)]) (M1 := M) 2 (fun n => rfl) ?_
        exact Ev.ret (fun n => rfl)
      · rw [if_neg h3, if_neg h3]
        refine Ev.step (pc' := 25) (ls' := [some (.int d)]) (st' := [.int 1]) (M1 := M) 3 (fun n => rfl) ?_
        exact Ev.ret (fun n => rfl)
section BES
variable {M : Mem} {vs : List Value} {l : List Int32}
theorem gf_s {st : List Value} {ini : Bool} (hM : gNth M 633 = some (.inr (11, vs))) (hv : gNth vs 5 = some (.ref 635)) : gGet (.getfield 30) none 11 ini (.ref 633 :: st) M = some (.ref 635 :: st, M) := by
  show (match gOwn fRs 11 30, gNth M 633 with
    | some (ci, k, _), some (.inr (c, fs)) => match Nat.beq c ci, gNth fs k with
      | true, some v => some (v :: st, M)
      | _, _ => none
    | _, _ => none) = _
  rw [hM]
  show (match Nat.beq 11 11, gNth vs 5 with
    | true, some v => some (v :: st, M)
    | _, _ => none) = _
  rw [hv]
theorem ia_s {st : List Value} {ini : Bool} {j x : Int32} (hs : gNth M 635 = some (.inl (1, .inl l))) (h0 : gAt l j = some x) : gGet .iaload none 11 ini (.int j :: .ref 635 :: st) M = some (.int x :: st, M) := by
  show (match gNth M 635 with
    | some (.inl (1, .inl l)) => match gAt l j with
      | some x => some (Value.int x :: st, M)
      | none => none
    | _ => none) = _
  rw [hs]
  show (match gAt l j with
      | some x => some (Value.int x :: st, M)
      | none => none) = _
  rw [h0]
variable {w h c d : Int32} {e : Nat}
set_option maxHeartbeats 4000000 in
theorem ev_beside (hM : gNth M 633 = some (.inr (11, vs))) (hv : gNth vs 5 = some (.ref 635)) (hs : gNth M 635 = some (.inl (1, .inl l))) (h0 : gAt l 0 = some w) (h1 : gAt l 1 = some h) (hw : ¬ w = 0) : Ev none (e + 2) 194 0 [some (.ref 633), some (.int c), some (.int d), none, none] [] M (some (.int (besI w h c d))) M 0 0 := by
  refine Ev.step (pc' := 2) (ls' := [some (.ref 633), some (.int c), some (.int d), none, none]) (st' := [.ref 633, .int c]) (M1 := M) 2 (fun n => rfl) ?_
  refine Ev.step 1 (gs_3 rfl rfl (gf_s hM hv)) ?_
  refine Ev.step (pc' := 6) (ls' := [some (.ref 633), some (.int c), some (.int d), none, none]) (st' := [.int 0, .ref 635, .int c]) (M1 := M) 1 (fun n => rfl) ?_
  refine Ev.step 1 (gs_3 rfl rfl (ia_s hs h0)) ?_
  refine Ev.step 1 (gs_0 (st' := [.int (c - c / w * w)]) rfl rfl (show (if w = 0 then none else some _) = _ by rw [if_neg hw])) ?_
  refine Ev.step (pc' := 9) (ls' := [some (.ref 633), some (.int c), some (.int d), none, none]) (st' := [.int d, .int (c - c / w * w)]) (M1 := M) 1 (fun n => rfl) ?_
  refine Ev.call0 (ls0 := [some (.int d)]) (rest := [.int (c - c / w * w)]) (id := 192) (v1 := some (.int (eastI d))) (M1 := M) (fun n => rfl) ev_east ?_
  obtain ⟨x, ex⟩ : ∃ x, x = c - c / w * w + eastI d := ⟨_, rfl⟩
  obtain ⟨y, ey⟩ : ∃ y, y = c / w + southI d := ⟨_, rfl⟩
  unfold besI
  rw [← ex, ← ey]
  refine Ev.step (pc' := 16) (ls' := [some (.ref 633), some (.int c), some (.int d), some (.int x), none]) (st' := [.ref 633, .int c]) (M1 := M) 4 (fun n => by rw [ex]; rfl) ?_
  refine Ev.step 1 (gs_3 rfl rfl (gf_s hM hv)) ?_
  refine Ev.step (pc' := 20) (ls' := [some (.ref 633), some (.int c), some (.int d), some (.int x), none]) (st' := [.int 0, .ref 635, .int c]) (M1 := M) 1 (fun n => rfl) ?_
  refine Ev.step 1 (gs_3 rfl rfl (ia_s hs h0)) ?_
  refine Ev.step 1 (gs_0 (st' := [.int (c / w)]) rfl rfl (show (if w = 0 then none else some _) = _ by rw [if_neg hw])) ?_
  refine Ev.step (pc' := 23) (ls' := [some (.ref 633), some (.int c), some (.int d), some (.int x), none]) (st' := [.int d, .int (c / w)]) (M1 := M) 1 (fun n => rfl) ?_
  refine Ev.call0 (ls0 := [some (.int d)]) (rest := [.int (c / w)]) (id := 193) (v1 := some (.int (southI d))) (M1 := M) (fun n => rfl) ev_south ?_
  refine Ev.step (pc' := 32) (ls' := [some (.ref 633), some (.int c), some (.int d), some (.int x), some (.int y)]) (st' := [.ref 633, .int 0, .int x]) (M1 := M) 5 (fun n => by rw [ey]; rfl) ?_
  refine Ev.step 1 (gs_3 rfl rfl (gf_s hM hv)) ?_
  refine Ev.step (pc' := 36) (ls' := [some (.ref 633), some (.int c), some (.int d), some (.int x), some (.int y)]) (st' := [.int 0, .ref 635, .int 0, .int x]) (M1 := M) 1 (fun n => rfl) ?_
  refine Ev.step 1 (gs_3 rfl rfl (ia_s hs h0)) ?_
  refine Ev.step (pc' := 39) (ls' := [some (.ref 633), some (.int c), some (.int d), some (.int x), some (.int y)]) (st' := [.int (w - 1), .int 0, .int x]) (M1 := M) 2 (fun n => rfl) ?_
  refine Ev.call0 (ls0 := [some (.int x), some (.int 0), some (.int (w - 1))]) (rest := []) (id := 140) (v1 := some (.int (if x < 0 then 0 else if w - 1 < x then 0 else 1))) (M1 := M) (fun n => rfl) ev_isin ?_
  have out : Ev none (e + 2) 194 76 [some (.ref 633), some (.int c), some (.int d), some (.int x), some (.int y)] [] M (some (.int (-1))) M 0 0 := by
    refine Ev.step (pc' := 77) (ls' := [some (.ref 633), some (.int c), some (.int d), some (.int x), some (.int y)]) (st' := [.int (-1)]) (M1 := M) 1 (fun n => rfl) ?_
    exact Ev.ret (fun n => rfl)
  by_cases c1 : x < 0
  · rw [if_pos c1, if_pos c1]
    exact Ev.step (pc' := 76) (ls' := [some (.ref 633), some (.int c), some (.int d), some (.int x), some (.int y)]) (st' := []) (M1 := M) 1 (fun n => rfl) out
  rw [if_neg c1, if_neg c1]
  by_cases c2 : w - 1 < x
  · rw [if_pos c2, if_pos c2]
    exact Ev.step (pc' := 76) (ls' := [some (.ref 633), some (.int c), some (.int d), some (.int x), some (.int y)]) (st' := []) (M1 := M) 1 (fun n => rfl) out
  rw [if_neg c2, if_neg c2]
  refine Ev.step (pc' := 49) (ls' := [some (.ref 633), some (.int c), some (.int d), some (.int x), some (.int y)]) (st' := [.ref 633, .int 0, .int y]) (M1 := M) 4 (fun n => rfl) ?_
  refine Ev.step 1 (gs_3 rfl rfl (gf_s hM hv)) ?_
  refine Ev.step (pc' := 53) (ls' := [some (.ref 633), some (.int c), some (.int d), some (.int x), some (.int y)]) (st' := [.int 1, .ref 635, .int 0, .int y]) (M1 := M) 1 (fun n => rfl) ?_
  refine Ev.step 1 (gs_3 rfl rfl (ia_s hs h1)) ?_
  refine Ev.step (pc' := 56) (ls' := [some (.ref 633), some (.int c), some (.int d), some (.int x), some (.int y)]) (st' := [.int (h - 1), .int 0, .int y]) (M1 := M) 2 (fun n => rfl) ?_
  refine Ev.call0 (ls0 := [some (.int y), some (.int 0), some (.int (h - 1))]) (rest := []) (id := 140) (v1 := some (.int (if y < 0 then 0 else if h - 1 < y then 0 else 1))) (M1 := M) (fun n => rfl) ev_isin ?_
  by_cases c3 : y < 0
  · rw [if_pos c3, if_pos c3]
    exact Ev.step (pc' := 76) (ls' := [some (.ref 633), some (.int c), some (.int d), some (.int x), some (.int y)]) (st' := []) (M1 := M) 1 (fun n => rfl) out
  rw [if_neg c3, if_neg c3]
  by_cases c4 : h - 1 < y
  · rw [if_pos c4, if_pos c4]
    exact Ev.step (pc' := 76) (ls' := [some (.ref 633), some (.int c), some (.int d), some (.int x), some (.int y)]) (st' := []) (M1 := M) 1 (fun n => rfl) out
  rw [if_neg c4, if_neg c4]
  refine Ev.step (pc' := 63) (ls' := [some (.ref 633), some (.int c), some (.int d), some (.int x), some (.int y)]) (st' := [.ref 633]) (M1 := M) 2 (fun n => rfl) ?_
  refine Ev.step 1 (gs_3 rfl rfl (gf_s hM hv)) ?_
  refine Ev.step (pc' := 67) (ls' := [some (.ref 633), some (.int c), some (.int d), some (.int x), some (.int y)]) (st' := [.int 0, .ref 635]) (M1 := M) 1 (fun n => rfl) ?_
  refine Ev.step 1 (gs_3 rfl rfl (ia_s hs h0)) ?_
  refine Ev.step (pc' := 77) (ls' := [some (.ref 633), some (.int c), some (.int d), some (.int x), some (.int y)]) (st' := [.int (w * y + x)]) (M1 := M) 5 (fun n => rfl) ?_
  exact Ev.ret (fun n => rfl)
end BES
