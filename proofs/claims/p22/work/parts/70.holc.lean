/-! BY HAND: the reference's holds: a step that asks something of the place -/
section HOL3
variable {M : Mem} {vs : List Value} {x c t n k w : Int32} {a b : Option Value} {e : Nat} {v : Option Value} {M' : Mem} {tr ls sg nm lt : List Int32}
theorem hol_101 (hw : w = 21 ∨ w = 22) (hz : (w = 21 ∨ w = 22) → Ev none (e + 4) 187 115 [some (.ref 633), some (.int x), some (.int c), some (.int t), some (.int n), some (.int k), (some (.int w)), b] [] M v M' 0 0) : Ev none (e + 4) 187 101 [some (.ref 633), some (.int x), some (.int c), some (.int t), some (.int n), some (.int k), (some (.int w)), b] [] M v M' 0 0 := by
  refine Ev.step (pc' := if w = 21 then 115 else 108) (ls' := [some (.ref 633), some (.int x), some (.int c), some (.int t), some (.int n), some (.int k), (some (.int w)), b]) (st' := []) (M1 := M) 3 (fun n => rfl) ?_
  by_cases h0 : w = 21
  · rw [if_pos h0]; exact hz (Or.inl h0)
  · rw [if_neg h0]
    refine Ev.step (pc' := if w = 22 then 115 else 194) (ls' := [some (.ref 633), some (.int x), some (.int c), some (.int t), some (.int n), some (.int k), (some (.int w)), b]) (st' := []) (M1 := M) 3 (fun n => rfl) ?_
    by_cases h1 : w = 22
    · rw [if_pos h1]; exact hz (Or.inr h1)
    · exact absurd (hw.resolve_left h0) h1
theorem hol_101e (h1 : w ≠ 21) (h2 : w ≠ 22) (hz : Ev none (e + 4) 187 194 [some (.ref 633), some (.int x), some (.int c), some (.int t), some (.int n), some (.int k), (some (.int w)), b] [] M v M' 0 0) : Ev none (e + 4) 187 101 [some (.ref 633), some (.int x), some (.int c), some (.int t), some (.int n), some (.int k), (some (.int w)), b] [] M v M' 0 0 := by
  refine Ev.step (pc' := if w = 21 then 115 else 108) (ls' := [some (.ref 633), some (.int x), some (.int c), some (.int t), some (.int n), some (.int k), (some (.int w)), b]) (st' := []) (M1 := M) 3 (fun n => rfl) ?_
  rw [if_neg h1]
  refine Ev.step (pc' := if w = 22 then 115 else 194) (ls' := [some (.ref 633), some (.int x), some (.int c), some (.int t), some (.int n), some (.int k), (some (.int w)), b]) (st' := []) (M1 := M) 3 (fun n => rfl) ?_
  rw [if_neg h2]
  exact hz
theorem nthx {α : Type} {l l2 : List α} (h : ∀ i, gNth l i = gNth l2 i) : l = l2 := List.ext_getElem? (fun i => by rw [← nth_eq, ← nth_eq]; exact h i)
theorem pure_ok {M : Mem} {M1 : Mem} (hF : Frm sT [] M M1) : M1 = M := by
  refine nthx (fun i => ?_)
  cases h : gNth M i with
  | none =>
    have h2 : M.length ≤ i := by
      rw [nth_eq] at h
      exact List.getElem?_eq_none_iff.mp h
    rw [nth_eq]
    exact List.getElem?_eq_none_iff.mpr (by rw [hF.1]; exact h2)
  | some q => ?_
  rcases q with ⟨ty, y⟩ | ⟨ci, fs⟩
  · obtain ⟨y', e1, e2⟩ := hF.2.2 _ _ _ h
    rw [e1, e2 (fun g _ hm => by cases hm)]
  · obtain ⟨fs', e1, e2, e3⟩ := hF.2.1 _ _ _ h
    rw [e1, nthx (fun i => e3 i (fun hm => by cases hm))]
set_option maxRecDepth 100000 in
theorem mR_146 : (gNth mRs 146).map (fun q => q.2.2.2.1) = some 3 := by decide +kernel
set_option maxRecDepth 100000 in
theorem mR_186 : (gNth mRs 186).map (fun q => q.2.2.2.1) = some 3 := by decide +kernel
theorem run_of {d : Nat} {kk : Int32} (hT : TM sT sG M) (hc : 0 ≤ c.toInt ∧ c.toInt ≤ 255) (hk : 0 ≤ kk.toInt ∧ kk.toInt ≤ 6) : ∃ r : Int32, Ev none d 146 0 [some (.ref 633), some (.int c), some (.int kk)] [] M (some (.int r)) M 0 0 := by
  have hm := mR_146
  cases hq : gNth mRs 146 with
  | none => rw [hq] at hm; cases hm
  | some q => ?_
  rw [hq] at hm
  have hm : q.2.2.2.1 = 3 := Option.some.inj hm
  obtain ⟨r, M1, h1, _, h3, s, hs, ⟨h4, _⟩, _⟩ := kX11_of_ok d M [.ref 633, .int c, .int kk] q (Nat.zero_le d) hq (Two.mk rfl (Two.mk ⟨c, rfl, hc.1, hc.2⟩ (Two.mk ⟨kk, rfl, hk.1, hk.2⟩ trivial))) ⟨[], trivial, fun f hf => by cases hf⟩ hT
  cases pure_ok h3
  cases List.mem_singleton.mp hs
  rw [hm] at h1
  rcases r with _ | r
  · exact h4.elim
  · obtain ⟨y, rfl, _⟩ := h4
    exact ⟨y, h1⟩
theorem run_is {d : Nat} {kk : Int32} (hT : TM sT sG M) (hc : 0 ≤ c.toInt ∧ c.toInt ≤ 255) : ∃ r : Int32, Ev none (d + 3) 186 0 [some (.ref 633), some (.int c), some (.int kk)] [] M (some (.int r)) M 0 0 := by
  have hm := mR_186
  cases hq : gNth mRs 186 with
  | none => rw [hq] at hm; cases hm
  | some q => ?_
  rw [hq] at hm
  have hm : q.2.2.2.1 = 3 := Option.some.inj hm
  obtain ⟨r, M1, h1, _, h3, s, hs, ⟨h4, _⟩, _⟩ := kX11_is_ok (d + 3) M [.ref 633, .int c, .int kk] q (Nat.le_add_left 3 d) hq (Two.mk rfl (Two.mk ⟨c, rfl, hc.1, hc.2⟩ (Two.mk ⟨kk, rfl, (i32_lt kk).1, (i32_lt kk).2⟩ trivial))) ⟨[], trivial, fun f hf => by cases hf⟩ hT
  cases pure_ok h3
  cases List.mem_singleton.mp hs
  rw [hm] at h1
  rcases r with _ | r
  · exact h4.elim
  · obtain ⟨y, rfl, _⟩ := h4
    exact ⟨y, h1⟩
theorem hol_241 {kk : Int32} (hM : gNth M 633 = some (.inr (11, vs))) (hT : TM sT sG M) (hc : 0 ≤ c.toInt ∧ c.toInt ≤ 255) (hk : 0 ≤ kk.toInt ∧ kk.toInt ≤ 6) : ∃ r : Int32, ∀ {v : Option Value} {M' : Mem}, Ev none (e + 4) 187 244 [some (.ref 633), some (.int x), some (.int c), some (.int t), some (.int n), some (.int k), (some (.int w)), b] [.int r] M v M' 0 0 → Ev none (e + 4) 187 241 [some (.ref 633), some (.int x), some (.int c), some (.int t), some (.int n), some (.int k), (some (.int w)), b] [.int kk, .int c, .ref 633] M v M' 0 0 := by
  obtain ⟨r, hr⟩ := run_of (d := e + 3) hT hc hk
  refine ⟨r, fun hz => ?_⟩
  exact Ev.call0 (fun n => gs_7 rfl rfl (cal_of hM rfl)) hr hz
theorem hol_194 (hM : gNth M 633 = some (.inr (11, vs))) (hT : TM sT sG M) (hc : 0 ≤ c.toInt ∧ c.toInt ≤ 255) : ∃ r : Int32, ∀ {v : Option Value} {M' : Mem}, Ev none (e + 4) 187 244 [some (.ref 633), some (.int x), some (.int c), some (.int t), some (.int n), some (.int k), (some (.int w)), b] [.int r] M v M' 0 0 → Ev none (e + 4) 187 194 [some (.ref 633), some (.int x), some (.int c), some (.int t), some (.int n), some (.int k), (some (.int w)), b] [] M v M' 0 0 := by
  by_cases h0 : (8 : Int32) ≤ w
  · obtain ⟨kk, hk, hz1⟩ : ∃ kk : Int32, (0 ≤ kk.toInt ∧ kk.toInt ≤ 6) ∧ ∀ {v : Option Value} {M' : Mem}, Ev none (e + 4) 187 241 [some (.ref 633), some (.int x), some (.int c), some (.int t), some (.int n), some (.int k), (some (.int w)), b] [.int kk, .int c, .ref 633] M v M' 0 0 → Ev none (e + 4) 187 205 [some (.ref 633), some (.int x), some (.int c), some (.int t), some (.int n), some (.int k), (some (.int w)), b] [] M v M' 0 0 := by
      by_cases h1 : w = 8
      · refine ⟨3, by decide, fun hz => ?_⟩
        refine Ev.step (pc' := if w = 8 then 214 else 218) (ls' := [some (.ref 633), some (.int x), some (.int c), some (.int t), some (.int n), some (.int k), (some (.int w)), b]) (st' := [.int c, .ref 633]) (M1 := M) 5 (fun n => rfl) ?_
        rw [if_pos h1]
        exact Ev.step (pc' := 241) (ls' := [some (.ref 633), some (.int x), some (.int c), some (.int t), some (.int n), some (.int k), (some (.int w)), b]) (st' := [.int 3, .int c, .ref 633]) (M1 := M) 2 (fun n => rfl) hz
      by_cases h2 : w = 9
      · refine ⟨4, by decide, fun hz => ?_⟩
        refine Ev.step (pc' := if w = 8 then 214 else 218) (ls' := [some (.ref 633), some (.int x), some (.int c), some (.int t), some (.int n), some (.int k), (some (.int w)), b]) (st' := [.int c, .ref 633]) (M1 := M) 5 (fun n => rfl) ?_
        rw [if_neg h1]
        refine Ev.step (pc' := if w = 9 then 225 else 229) (ls' := [some (.ref 633), some (.int x), some (.int c), some (.int t), some (.int n), some (.int k), (some (.int w)), b]) (st' := [.int c, .ref 633]) (M1 := M) 3 (fun n => rfl) ?_
        rw [if_pos h2]
        exact Ev.step (pc' := 241) (ls' := [some (.ref 633), some (.int x), some (.int c), some (.int t), some (.int n), some (.int k), (some (.int w)), b]) (st' := [.int 4, .int c, .ref 633]) (M1 := M) 2 (fun n => rfl) hz
      by_cases h3 : w = 10
      · refine ⟨2, by decide, fun hz => ?_⟩
        refine Ev.step (pc' := if w = 8 then 214 else 218) (ls' := [some (.ref 633), some (.int x), some (.int c), some (.int t), some (.int n), some (.int k), (some (.int w)), b]) (st' := [.int c, .ref 633]) (M1 := M) 5 (fun n => rfl) ?_
        rw [if_neg h1]
        refine Ev.step (pc' := if w = 9 then 225 else 229) (ls' := [some (.ref 633), some (.int x), some (.int c), some (.int t), some (.int n), some (.int k), (some (.int w)), b]) (st' := [.int c, .ref 633]) (M1 := M) 3 (fun n => rfl) ?_
        rw [if_neg h2]
        refine Ev.step (pc' := if w = 10 then 236 else 240) (ls' := [some (.ref 633), some (.int x), some (.int c), some (.int t), some (.int n), some (.int k), (some (.int w)), b]) (st' := [.int c, .ref 633]) (M1 := M) 3 (fun n => rfl) ?_
        rw [if_pos h3]
        exact Ev.step (pc' := 241) (ls' := [some (.ref 633), some (.int x), some (.int c), some (.int t), some (.int n), some (.int k), (some (.int w)), b]) (st' := [.int 2, .int c, .ref 633]) (M1 := M) 2 (fun n => rfl) hz
      · refine ⟨5, by decide, fun hz => ?_⟩
        refine Ev.step (pc' := if w = 8 then 214 else 218) (ls' := [some (.ref 633), some (.int x), some (.int c), some (.int t), some (.int n), some (.int k), (some (.int w)), b]) (st' := [.int c, .ref 633]) (M1 := M) 5 (fun n => rfl) ?_
        rw [if_neg h1]
        refine Ev.step (pc' := if w = 9 then 225 else 229) (ls' := [some (.ref 633), some (.int x), some (.int c), some (.int t), some (.int n), some (.int k), (some (.int w)), b]) (st' := [.int c, .ref 633]) (M1 := M) 3 (fun n => rfl) ?_
        rw [if_neg h2]
        refine Ev.step (pc' := if w = 10 then 236 else 240) (ls' := [some (.ref 633), some (.int x), some (.int c), some (.int t), some (.int n), some (.int k), (some (.int w)), b]) (st' := [.int c, .ref 633]) (M1 := M) 3 (fun n => rfl) ?_
        rw [if_neg h3]
        exact Ev.step (pc' := 241) (ls' := [some (.ref 633), some (.int x), some (.int c), some (.int t), some (.int n), some (.int k), (some (.int w)), b]) (st' := [.int 5, .int c, .ref 633]) (M1 := M) 1 (fun n => rfl) hz
    obtain ⟨r, hr⟩ := hol_241 (x := x) (t := t) (n := n) (k := k) (w := w) (b := b) (e := e) hM hT hc hk
    refine ⟨r, fun hz => ?_⟩
    refine Ev.step (pc' := if (8 : Int32) ≤ w then 205 else 201) (ls' := [some (.ref 633), some (.int x), some (.int c), some (.int t), some (.int n), some (.int k), (some (.int w)), b]) (st' := []) (M1 := M) 3 (fun n => rfl) ?_
    rw [if_pos h0]
    exact hz1 (hr hz)
  · refine ⟨0, fun hz => ?_⟩
    refine Ev.step (pc' := if (8 : Int32) ≤ w then 205 else 201) (ls' := [some (.ref 633), some (.int x), some (.int c), some (.int t), some (.int n), some (.int k), (some (.int w)), b]) (st' := []) (M1 := M) 3 (fun n => rfl) ?_
    rw [if_neg h0]
    exact Ev.step (pc' := 244) (ls' := [some (.ref 633), some (.int x), some (.int c), some (.int t), some (.int n), some (.int k), (some (.int w)), b]) (st' := [.int 0]) (M1 := M) 2 (fun n => rfl) hz
theorem hol_244 {u sv nv : Int32} (hM : gNth M 633 = some (.inr (11, vs))) (h33 : gNth vs 33 = some (.ref 649)) (h16 : gNth vs 16 = some (.ref 646)) (h17 : gNth vs 17 = some (.ref 647)) (hsg : gNth M 646 = some (.inl (1, .inl sg))) (hnm : gNth M 647 = some (.inl (1, .inl nm))) (hs : gAt sg k = some sv) (hn : gAt nm k = some nv) (hT : TM sT sG M) (hc : 0 ≤ c.toInt ∧ c.toInt ≤ 255) : ∃ r : Int32, ∀ {v : Option Value} {M' : Mem}, Ev none (e + 4) 187 350 [some (.ref 633), some (.int x), some (.int c), some (.int t), some (.int n), some (.int k), (some (.int w)), (some (.int u))] [.int r, .int n, .ref 649] M v M' 0 0 → Ev none (e + 4) 187 244 [some (.ref 633), some (.int x), some (.int c), some (.int t), some (.int n), some (.int k), (some (.int w)), b] [.int u] M v M' 0 0 := by
  have hd : ∀ {v : Option Value} {M' : Mem}, Ev none (e + 4) 187 (if (8 : Int32) ≤ w then 269 else 259) [some (.ref 633), some (.int x), some (.int c), some (.int t), some (.int n), some (.int k), (some (.int w)), (some (.int u))] [.int n, .ref 649] M v M' 0 0 → Ev none (e + 4) 187 244 [some (.ref 633), some (.int x), some (.int c), some (.int t), some (.int n), some (.int k), (some (.int w)), b] [.int u] M v M' 0 0 := by
    intro v M' hz
    refine Ev.step (pc' := 247) (ls' := [some (.ref 633), some (.int x), some (.int c), some (.int t), some (.int n), some (.int k), (some (.int w)), (some (.int u))]) (st' := [.ref 633]) (M1 := M) 2 (fun n => rfl) ?_
    refine Ev.step 1 (gs_3 rfl rfl (gf_83 hM h33)) ?_
    exact Ev.step (pc' := if (8 : Int32) ≤ w then 269 else 259) (ls' := [some (.ref 633), some (.int x), some (.int c), some (.int t), some (.int n), some (.int k), (some (.int w)), (some (.int u))]) (st' := [.int n, .ref 649]) (M1 := M) 4 (fun n => rfl) hz
  by_cases h0 : (8 : Int32) ≤ w
  · rw [if_pos h0] at hd
    by_cases h1 : sv = 60
    ·
      by_cases h3 : nv ≤ u
      · refine ⟨0, fun hz => hd ?_⟩
        refine Ev.step (pc' := 270) (ls' := [some (.ref 633), some (.int x), some (.int c), some (.int t), some (.int n), some (.int k), (some (.int w)), (some (.int u))]) (st' := [.ref 633, .int n, .ref 649]) (M1 := M) 1 (fun n => rfl) ?_
        refine Ev.step 1 (gs_3 rfl rfl (gf_65 hM h16)) ?_
        refine Ev.step (pc' := 275) (ls' := [some (.ref 633), some (.int x), some (.int c), some (.int t), some (.int n), some (.int k), (some (.int w)), (some (.int u))]) (st' := [.int k, .ref 646, .int n, .ref 649]) (M1 := M) 1 (fun n => rfl) ?_
        refine Ev.step 1 (gs_3 rfl rfl (ia_g hsg hs)) ?_
        refine Ev.step (pc' := if sv = 60 then 281 else 301) (ls' := [some (.ref 633), some (.int x), some (.int c), some (.int t), some (.int n), some (.int k), (some (.int w)), (some (.int u))]) (st' := [.int n, .ref 649]) (M1 := M) 2 (fun n => rfl) ?_
        rw [if_pos h1]
        refine Ev.step (pc' := 284) (ls' := [some (.ref 633), some (.int x), some (.int c), some (.int t), some (.int n), some (.int k), (some (.int w)), (some (.int u))]) (st' := [.ref 633, .int u, .int n, .ref 649]) (M1 := M) 2 (fun n => rfl) ?_
        refine Ev.step 1 (gs_3 rfl rfl (gf_68 hM h17)) ?_
        refine Ev.step (pc' := 289) (ls' := [some (.ref 633), some (.int x), some (.int c), some (.int t), some (.int n), some (.int k), (some (.int w)), (some (.int u))]) (st' := [.int k, .ref 647, .int u, .int n, .ref 649]) (M1 := M) 1 (fun n => rfl) ?_
        refine Ev.step 1 (gs_3 rfl rfl (ia_g hnm hn)) ?_
        refine Ev.step (pc' := if nv ≤ u then 297 else 293) (ls' := [some (.ref 633), some (.int x), some (.int c), some (.int t), some (.int n), some (.int k), (some (.int w)), (some (.int u))]) (st' := [.int n, .ref 649]) (M1 := M) 1 (fun n => rfl) ?_
        rw [if_pos h3]
        exact Ev.step (pc' := 350) (ls' := [some (.ref 633), some (.int x), some (.int c), some (.int t), some (.int n), some (.int k), (some (.int w)), (some (.int u))]) (st' := [.int 0, .int n, .ref 649]) (M1 := M) 2 (fun n => rfl) hz
      · refine ⟨1, fun hz => hd ?_⟩
        refine Ev.step (pc' := 270) (ls' := [some (.ref 633), some (.int x), some (.int c), some (.int t), some (.int n), some (.int k), (some (.int w)), (some (.int u))]) (st' := [.ref 633, .int n, .ref 649]) (M1 := M) 1 (fun n => rfl) ?_
        refine Ev.step 1 (gs_3 rfl rfl (gf_65 hM h16)) ?_
        refine Ev.step (pc' := 275) (ls' := [some (.ref 633), some (.int x), some (.int c), some (.int t), some (.int n), some (.int k), (some (.int w)), (some (.int u))]) (st' := [.int k, .ref 646, .int n, .ref 649]) (M1 := M) 1 (fun n => rfl) ?_
        refine Ev.step 1 (gs_3 rfl rfl (ia_g hsg hs)) ?_
        refine Ev.step (pc' := if sv = 60 then 281 else 301) (ls' := [some (.ref 633), some (.int x), some (.int c), some (.int t), some (.int n), some (.int k), (some (.int w)), (some (.int u))]) (st' := [.int n, .ref 649]) (M1 := M) 2 (fun n => rfl) ?_
        rw [if_pos h1]
        refine Ev.step (pc' := 284) (ls' := [some (.ref 633), some (.int x), some (.int c), some (.int t), some (.int n), some (.int k), (some (.int w)), (some (.int u))]) (st' := [.ref 633, .int u, .int n, .ref 649]) (M1 := M) 2 (fun n => rfl) ?_
        refine Ev.step 1 (gs_3 rfl rfl (gf_68 hM h17)) ?_
        refine Ev.step (pc' := 289) (ls' := [some (.ref 633), some (.int x), some (.int c), some (.int t), some (.int n), some (.int k), (some (.int w)), (some (.int u))]) (st' := [.int k, .ref 647, .int u, .int n, .ref 649]) (M1 := M) 1 (fun n => rfl) ?_
        refine Ev.step 1 (gs_3 rfl rfl (ia_g hnm hn)) ?_
        refine Ev.step (pc' := if nv ≤ u then 297 else 293) (ls' := [some (.ref 633), some (.int x), some (.int c), some (.int t), some (.int n), some (.int k), (some (.int w)), (some (.int u))]) (st' := [.int n, .ref 649]) (M1 := M) 1 (fun n => rfl) ?_
        rw [if_neg h3]
        exact Ev.step (pc' := 350) (ls' := [some (.ref 633), some (.int x), some (.int c), some (.int t), some (.int n), some (.int k), (some (.int w)), (some (.int u))]) (st' := [.int 1, .int n, .ref 649]) (M1 := M) 2 (fun n => rfl) hz
    by_cases h2 : sv = 61
    ·
      by_cases h3 : u = nv
      · refine ⟨1, fun hz => hd ?_⟩
        refine Ev.step (pc' := 270) (ls' := [some (.ref 633), some (.int x), some (.int c), some (.int t), some (.int n), some (.int k), (some (.int w)), (some (.int u))]) (st' := [.ref 633, .int n, .ref 649]) (M1 := M) 1 (fun n => rfl) ?_
        refine Ev.step 1 (gs_3 rfl rfl (gf_65 hM h16)) ?_
        refine Ev.step (pc' := 275) (ls' := [some (.ref 633), some (.int x), some (.int c), some (.int t), some (.int n), some (.int k), (some (.int w)), (some (.int u))]) (st' := [.int k, .ref 646, .int n, .ref 649]) (M1 := M) 1 (fun n => rfl) ?_
        refine Ev.step 1 (gs_3 rfl rfl (ia_g hsg hs)) ?_
        refine Ev.step (pc' := if sv = 60 then 281 else 301) (ls' := [some (.ref 633), some (.int x), some (.int c), some (.int t), some (.int n), some (.int k), (some (.int w)), (some (.int u))]) (st' := [.int n, .ref 649]) (M1 := M) 2 (fun n => rfl) ?_
        rw [if_neg h1]
        refine Ev.step (pc' := 302) (ls' := [some (.ref 633), some (.int x), some (.int c), some (.int t), some (.int n), some (.int k), (some (.int w)), (some (.int u))]) (st' := [.ref 633, .int n, .ref 649]) (M1 := M) 1 (fun n => rfl) ?_
        refine Ev.step 1 (gs_3 rfl rfl (gf_65 hM h16)) ?_
        refine Ev.step (pc' := 307) (ls' := [some (.ref 633), some (.int x), some (.int c), some (.int t), some (.int n), some (.int k), (some (.int w)), (some (.int u))]) (st' := [.int k, .ref 646, .int n, .ref 649]) (M1 := M) 1 (fun n => rfl) ?_
        refine Ev.step 1 (gs_3 rfl rfl (ia_g hsg hs)) ?_
        refine Ev.step (pc' := if sv = 61 then 313 else 333) (ls' := [some (.ref 633), some (.int x), some (.int c), some (.int t), some (.int n), some (.int k), (some (.int w)), (some (.int u))]) (st' := [.int n, .ref 649]) (M1 := M) 2 (fun n => rfl) ?_
        rw [if_pos h2]
        refine Ev.step (pc' := 316) (ls' := [some (.ref 633), some (.int x), some (.int c), some (.int t), some (.int n), some (.int k), (some (.int w)), (some (.int u))]) (st' := [.ref 633, .int u, .int n, .ref 649]) (M1 := M) 2 (fun n => rfl) ?_
        refine Ev.step 1 (gs_3 rfl rfl (gf_68 hM h17)) ?_
        refine Ev.step (pc' := 321) (ls' := [some (.ref 633), some (.int x), some (.int c), some (.int t), some (.int n), some (.int k), (some (.int w)), (some (.int u))]) (st' := [.int k, .ref 647, .int u, .int n, .ref 649]) (M1 := M) 1 (fun n => rfl) ?_
        refine Ev.step 1 (gs_3 rfl rfl (ia_g hnm hn)) ?_
        refine Ev.step (pc' := if u = nv then 325 else 329) (ls' := [some (.ref 633), some (.int x), some (.int c), some (.int t), some (.int n), some (.int k), (some (.int w)), (some (.int u))]) (st' := [.int n, .ref 649]) (M1 := M) 1 (fun n => rfl) ?_
        rw [if_pos h3]
        exact Ev.step (pc' := 350) (ls' := [some (.ref 633), some (.int x), some (.int c), some (.int t), some (.int n), some (.int k), (some (.int w)), (some (.int u))]) (st' := [.int 1, .int n, .ref 649]) (M1 := M) 2 (fun n => rfl) hz
      · refine ⟨0, fun hz => hd ?_⟩
        refine Ev.step (pc' := 270) (ls' := [some (.ref 633), some (.int x), some (.int c), some (.int t), some (.int n), some (.int k), (some (.int w)), (some (.int u))]) (st' := [.ref 633, .int n, .ref 649]) (M1 := M) 1 (fun n => rfl) ?_
        refine Ev.step 1 (gs_3 rfl rfl (gf_65 hM h16)) ?_
        refine Ev.step (pc' := 275) (ls' := [some (.ref 633), some (.int x), some (.int c), some (.int t), some (.int n), some (.int k), (some (.int w)), (some (.int u))]) (st' := [.int k, .ref 646, .int n, .ref 649]) (M1 := M) 1 (fun n => rfl) ?_
        refine Ev.step 1 (gs_3 rfl rfl (ia_g hsg hs)) ?_
        refine Ev.step (pc' := if sv = 60 then 281 else 301) (ls' := [some (.ref 633), some (.int x), some (.int c), some (.int t), some (.int n), some (.int k), (some (.int w)), (some (.int u))]) (st' := [.int n, .ref 649]) (M1 := M) 2 (fun n => rfl) ?_
        rw [if_neg h1]
        refine Ev.step (pc' := 302) (ls' := [some (.ref 633), some (.int x), some (.int c), some (.int t), some (.int n), some (.int k), (some (.int w)), (some (.int u))]) (st' := [.ref 633, .int n, .ref 649]) (M1 := M) 1 (fun n => rfl) ?_
        refine Ev.step 1 (gs_3 rfl rfl (gf_65 hM h16)) ?_
        refine Ev.step (pc' := 307) (ls' := [some (.ref 633), some (.int x), some (.int c), some (.int t), some (.int n), some (.int k), (some (.int w)), (some (.int u))]) (st' := [.int k, .ref 646, .int n, .ref 649]) (M1 := M) 1 (fun n => rfl) ?_
        refine Ev.step 1 (gs_3 rfl rfl (ia_g hsg hs)) ?_
        refine Ev.step (pc' := if sv = 61 then 313 else 333) (ls' := [some (.ref 633), some (.int x), some (.int c), some (.int t), some (.int n), some (.int k), (some (.int w)), (some (.int u))]) (st' := [.int n, .ref 649]) (M1 := M) 2 (fun n => rfl) ?_
        rw [if_pos h2]
        refine Ev.step (pc' := 316) (ls' := [some (.ref 633), some (.int x), some (.int c), some (.int t), some (.int n), some (.int k), (some (.int w)), (some (.int u))]) (st' := [.ref 633, .int u, .int n, .ref 649]) (M1 := M) 2 (fun n => rfl) ?_
        refine Ev.step 1 (gs_3 rfl rfl (gf_68 hM h17)) ?_
        refine Ev.step (pc' := 321) (ls' := [some (.ref 633), some (.int x), some (.int c), some (.int t), some (.int n), some (.int k), (some (.int w)), (some (.int u))]) (st' := [.int k, .ref 647, .int u, .int n, .ref 649]) (M1 := M) 1 (fun n => rfl) ?_
        refine Ev.step 1 (gs_3 rfl rfl (ia_g hnm hn)) ?_
        refine Ev.step (pc' := if u = nv then 325 else 329) (ls' := [some (.ref 633), some (.int x), some (.int c), some (.int t), some (.int n), some (.int k), (some (.int w)), (some (.int u))]) (st' := [.int n, .ref 649]) (M1 := M) 1 (fun n => rfl) ?_
        rw [if_neg h3]
        exact Ev.step (pc' := 350) (ls' := [some (.ref 633), some (.int x), some (.int c), some (.int t), some (.int n), some (.int k), (some (.int w)), (some (.int u))]) (st' := [.int 0, .int n, .ref 649]) (M1 := M) 2 (fun n => rfl) hz
    by_cases h3 : u ≤ nv
    · refine ⟨0, fun hz => hd ?_⟩
      refine Ev.step (pc' := 270) (ls' := [some (.ref 633), some (.int x), some (.int c), some (.int t), some (.int n), some (.int k), (some (.int w)), (some (.int u))]) (st' := [.ref 633, .int n, .ref 649]) (M1 := M) 1 (fun n => rfl) ?_
      refine Ev.step 1 (gs_3 rfl rfl (gf_65 hM h16)) ?_
      refine Ev.step (pc' := 275) (ls' := [some (.ref 633), some (.int x), some (.int c), some (.int t), some (.int n), some (.int k), (some (.int w)), (some (.int u))]) (st' := [.int k, .ref 646, .int n, .ref 649]) (M1 := M) 1 (fun n => rfl) ?_
      refine Ev.step 1 (gs_3 rfl rfl (ia_g hsg hs)) ?_
      refine Ev.step (pc' := if sv = 60 then 281 else 301) (ls' := [some (.ref 633), some (.int x), some (.int c), some (.int t), some (.int n), some (.int k), (some (.int w)), (some (.int u))]) (st' := [.int n, .ref 649]) (M1 := M) 2 (fun n => rfl) ?_
      rw [if_neg h1]
      refine Ev.step (pc' := 302) (ls' := [some (.ref 633), some (.int x), some (.int c), some (.int t), some (.int n), some (.int k), (some (.int w)), (some (.int u))]) (st' := [.ref 633, .int n, .ref 649]) (M1 := M) 1 (fun n => rfl) ?_
      refine Ev.step 1 (gs_3 rfl rfl (gf_65 hM h16)) ?_
      refine Ev.step (pc' := 307) (ls' := [some (.ref 633), some (.int x), some (.int c), some (.int t), some (.int n), some (.int k), (some (.int w)), (some (.int u))]) (st' := [.int k, .ref 646, .int n, .ref 649]) (M1 := M) 1 (fun n => rfl) ?_
      refine Ev.step 1 (gs_3 rfl rfl (ia_g hsg hs)) ?_
      refine Ev.step (pc' := if sv = 61 then 313 else 333) (ls' := [some (.ref 633), some (.int x), some (.int c), some (.int t), some (.int n), some (.int k), (some (.int w)), (some (.int u))]) (st' := [.int n, .ref 649]) (M1 := M) 2 (fun n => rfl) ?_
      rw [if_neg h2]
      refine Ev.step (pc' := 336) (ls' := [some (.ref 633), some (.int x), some (.int c), some (.int t), some (.int n), some (.int k), (some (.int w)), (some (.int u))]) (st' := [.ref 633, .int u, .int n, .ref 649]) (M1 := M) 2 (fun n => rfl) ?_
      refine Ev.step 1 (gs_3 rfl rfl (gf_68 hM h17)) ?_
      refine Ev.step (pc' := 341) (ls' := [some (.ref 633), some (.int x), some (.int c), some (.int t), some (.int n), some (.int k), (some (.int w)), (some (.int u))]) (st' := [.int k, .ref 647, .int u, .int n, .ref 649]) (M1 := M) 1 (fun n => rfl) ?_
      refine Ev.step 1 (gs_3 rfl rfl (ia_g hnm hn)) ?_
      refine Ev.step (pc' := if u ≤ nv then 349 else 345) (ls' := [some (.ref 633), some (.int x), some (.int c), some (.int t), some (.int n), some (.int k), (some (.int w)), (some (.int u))]) (st' := [.int n, .ref 649]) (M1 := M) 1 (fun n => rfl) ?_
      rw [if_pos h3]
      exact Ev.step (pc' := 350) (ls' := [some (.ref 633), some (.int x), some (.int c), some (.int t), some (.int n), some (.int k), (some (.int w)), (some (.int u))]) (st' := [.int 0, .int n, .ref 649]) (M1 := M) 1 (fun n => rfl) hz
    · refine ⟨1, fun hz => hd ?_⟩
      refine Ev.step (pc' := 270) (ls' := [some (.ref 633), some (.int x), some (.int c), some (.int t), some (.int n), some (.int k), (some (.int w)), (some (.int u))]) (st' := [.ref 633, .int n, .ref 649]) (M1 := M) 1 (fun n => rfl) ?_
      refine Ev.step 1 (gs_3 rfl rfl (gf_65 hM h16)) ?_
      refine Ev.step (pc' := 275) (ls' := [some (.ref 633), some (.int x), some (.int c), some (.int t), some (.int n), some (.int k), (some (.int w)), (some (.int u))]) (st' := [.int k, .ref 646, .int n, .ref 649]) (M1 := M) 1 (fun n => rfl) ?_
      refine Ev.step 1 (gs_3 rfl rfl (ia_g hsg hs)) ?_
      refine Ev.step (pc' := if sv = 60 then 281 else 301) (ls' := [some (.ref 633), some (.int x), some (.int c), some (.int t), some (.int n), some (.int k), (some (.int w)), (some (.int u))]) (st' := [.int n, .ref 649]) (M1 := M) 2 (fun n => rfl) ?_
      rw [if_neg h1]
      refine Ev.step (pc' := 302) (ls' := [some (.ref 633), some (.int x), some (.int c), some (.int t), some (.int n), some (.int k), (some (.int w)), (some (.int u))]) (st' := [.ref 633, .int n, .ref 649]) (M1 := M) 1 (fun n => rfl) ?_
      refine Ev.step 1 (gs_3 rfl rfl (gf_65 hM h16)) ?_
      refine Ev.step (pc' := 307) (ls' := [some (.ref 633), some (.int x), some (.int c), some (.int t), some (.int n), some (.int k), (some (.int w)), (some (.int u))]) (st' := [.int k, .ref 646, .int n, .ref 649]) (M1 := M) 1 (fun n => rfl) ?_
      refine Ev.step 1 (gs_3 rfl rfl (ia_g hsg hs)) ?_
      refine Ev.step (pc' := if sv = 61 then 313 else 333) (ls' := [some (.ref 633), some (.int x), some (.int c), some (.int t), some (.int n), some (.int k), (some (.int w)), (some (.int u))]) (st' := [.int n, .ref 649]) (M1 := M) 2 (fun n => rfl) ?_
      rw [if_neg h2]
      refine Ev.step (pc' := 336) (ls' := [some (.ref 633), some (.int x), some (.int c), some (.int t), some (.int n), some (.int k), (some (.int w)), (some (.int u))]) (st' := [.ref 633, .int u, .int n, .ref 649]) (M1 := M) 2 (fun n => rfl) ?_
      refine Ev.step 1 (gs_3 rfl rfl (gf_68 hM h17)) ?_
      refine Ev.step (pc' := 341) (ls' := [some (.ref 633), some (.int x), some (.int c), some (.int t), some (.int n), some (.int k), (some (.int w)), (some (.int u))]) (st' := [.int k, .ref 647, .int u, .int n, .ref 649]) (M1 := M) 1 (fun n => rfl) ?_
      refine Ev.step 1 (gs_3 rfl rfl (ia_g hnm hn)) ?_
      refine Ev.step (pc' := if u ≤ nv then 349 else 345) (ls' := [some (.ref 633), some (.int x), some (.int c), some (.int t), some (.int n), some (.int k), (some (.int w)), (some (.int u))]) (st' := [.int n, .ref 649]) (M1 := M) 1 (fun n => rfl) ?_
      rw [if_neg h3]
      exact Ev.step (pc' := 350) (ls' := [some (.ref 633), some (.int x), some (.int c), some (.int t), some (.int n), some (.int k), (some (.int w)), (some (.int u))]) (st' := [.int 1, .int n, .ref 649]) (M1 := M) 2 (fun n => rfl) hz
  · rw [if_neg h0] at hd
    obtain ⟨r, hr⟩ := run_is (d := e) (kk := w) hT hc
    refine ⟨r, fun hz => hd ?_⟩
    refine Ev.step (pc' := 263) (ls' := [some (.ref 633), some (.int x), some (.int c), some (.int t), some (.int n), some (.int k), (some (.int w)), (some (.int u))]) (st' := [.int w, .int c, .ref 633, .int n, .ref 649]) (M1 := M) 3 (fun n => rfl) ?_
    refine Ev.call0 (fun n => gs_7 rfl rfl (cal_is hM rfl)) hr ?_
    exact Ev.step (pc' := 350) (ls' := [some (.ref 633), some (.int x), some (.int c), some (.int t), some (.int n), some (.int k), (some (.int w)), (some (.int u))]) (st' := [.int r, .int n, .ref 649]) (M1 := M) 1 (fun n => rfl) hz
end HOL3
