/-! PURE: the reference's long calls on the fresh park -/
noncomputable def memS (S A : List Int32) : Mem := [.inr (11, [.int 0, .ref 1, .int 0, .int 0, .int 0, .ref 2, .ref 3, .ref 4, .ref 5, .ref 6, .ref 7, .ref 8, .ref 9, .ref 10, .ref 11, .ref 12, .ref 13, .ref 14, .ref 15, .int 0, .int 0, .int 0, .int 0, .int 0, .int 0, .int 0, .int 0, .int 0, .int 40, .int 50, .int 10, .long 0, .int 0, .ref 16, .int 0, .int 0, .int 0, .int 0, .int 0, .int 0, .int (-1), .int 0, .int 0, .ref 17, .ref 18, .ref 19, .ref 20, .ref 21, .ref 22, .int 0, .int 0, .int 0, .ref 23, .int 0, .ref 24, .ref 25, .ref 26, .ref 27, .ref 28, .ref 29, .int 0, .int 0, .int 0]),
  .inl (0, .inl (gRep 440 0)),
  .inl (1, .inl S),
  .inl (1, .inl (gRep 6942 0)),
  .inl (1, .inl A),
  .inl (3, .inl ([0, 0, 0])),
  .inl (1, .inl (gRep 8 0)),
  .inl (1, .inl (gRep 128 0)),
  .inl (1, .inl (gRep 128 0)),
  .inl (1, .inl (gRep 128 0)),
  .inl (1, .inl (gRep 128 0)),
  .inl (1, .inl (gRep 128 0)),
  .inl (1, .inl (gRep 1600 0)),
  .inl (1, .inl (gRep 1600 0)),
  .inl (1, .inl (gRep 1600 0)),
  .inl (1, .inl (gRep 100 0)),
  .inl (3, .inl (gRep 60 0)),
  .inl (3, .inl (gRep 256 0)),
  .inl (3, .inl (gRep 256 0)),
  .inl (3, .inl (gRep 256 0)),
  .inl (3, .inl (gRep 256 0)),
  .inl (1, .inl (gRep 16384 0)),
  .inl (1, .inl (gRep 256 0)),
  .inl (1, .inl ([0, 0])),
  .inl (1, .inl (gRep 201 0)),
  .inl (1, .inl (gRep 201 0)),
  .inl (1, .inl (gRep 1280 0)),
  .inl (1, .inl ([0, 0, 0, 0, 0])),
  .inl (1, .inl ([0, 0, 0, 0, 0])),
  .inl (1, .inl ([0, 0, 0, 0, 0]))]
noncomputable def S0 : List Int32 := [4, 4] ++ gRep 2312 0
noncomputable def St (t : Int32) : List Int32 := gPut S0 518 t
theorem memR_S : memR = memS S0 (gRep 2314 0) := rfl
theorem hM_S (t : Int32) (A : List Int32) : hM 2 518 t (memS S0 A) = memS (St t) A := rfl
theorem put_S2 (S A X : List Int32) : gPut (memS S A) 2 (.inl (1, .inl X)) = memS X A := rfl
theorem put_S4 (S A X : List Int32) : gPut (memS S A) 4 (.inl (1, .inl X)) = memS S X := rfl
theorem iaload_step {sc : Sta} {n d me pc b : Nat} {j : Int32} {ls : Lo} {r : List Value} {M : Mem} {l : List Int32} {x : Int32} {q : MR} (hrow : gNth mRs me = some q) (hlook : gLook q.2.2.2.2.2.2.2 pc = some (3, .iaload)) (hm : gNth M b = some (.inl (1, .inl l))) (hx : gAt l j = some x) : go sc (n + 1) d me pc ls (.int j :: .ref b :: r) M = go sc n d me (pc + 1) ls (.int x :: r) M := by
  obtain ⟨o, y9, cc9, mx9, ret, np9, kf, tab⟩ := q
  rw [go_succ]
  unfold gStep
  rw [hrow]
  dsimp only at hlook ⊢
  rw [hlook]
  dsimp only
  have hg : gGet .iaload sc o (Nat.beq kf 2) (.int j :: .ref b :: r) M = some (.int x :: r, M) := by simp only [gGet, hm, hx]
  rw [hg]
  rfl
theorem baload_step {sc : Sta} {n d me pc b : Nat} {j : Int32} {ls : Lo} {r : List Value} {M : Mem} {l : List Int32} {x : Int32} {q : MR} (hrow : gNth mRs me = some q) (hlook : gLook q.2.2.2.2.2.2.2 pc = some (3, .baload)) (hm : gNth M b = some (.inl (3, .inl l))) (hx : gAt l j = some x) : go sc (n + 1) d me pc ls (.int j :: .ref b :: r) M = go sc n d me (pc + 1) ls (.int x :: r) M := by
  obtain ⟨o, y9, cc9, mx9, ret, np9, kf, tab⟩ := q
  rw [go_succ]
  unfold gStep
  rw [hrow]
  dsimp only at hlook ⊢
  rw [hlook]
  dsimp only
  have hg : gGet .baload sc o (Nat.beq kf 2) (.int j :: .ref b :: r) M = some (.int x :: r, M) := by simp only [gGet, hm, hx]
  rw [hg]
  rfl
theorem iastore_step {sc : Sta} {n d me pc b : Nat} {j x x0 : Int32} {ls : Lo} {r : List Value} {M : Mem} {l : List Int32} {q : MR} (hrow : gNth mRs me = some q) (hlook : gLook q.2.2.2.2.2.2.2 pc = some (4, .iastore)) (hm : gNth M b = some (.inl (1, .inl l))) (hx : gAt l j = some x0) : go sc (n + 1) d me pc ls (.int x :: .int j :: .ref b :: r) M = go sc n d me (pc + 1) ls r (gPut M b (.inl (1, .inl (gPut l j.toNatClampNeg x)))) := by
  obtain ⟨o, y9, cc9, mx9, ret, np9, kf, tab⟩ := q
  rw [go_succ]
  unfold gStep
  rw [hrow]
  dsimp only at hlook ⊢
  rw [hlook]
  dsimp only
  have hg : gGet .iastore sc o (Nat.beq kf 2) (.int x :: .int j :: .ref b :: r) M = some (r, gPut M b (.inl (1, .inl (gPut l j.toNatClampNeg x)))) := by simp only [gGet, hm, hx]
  rw [hg]
  rfl
theorem at_nI {α : Type} {l : List α} {i : Nat} {y : α} (hi : i < 2 ^ 31) (h : l[i]? = some y) : gAt l (nI i) = some y := by
  unfold gAt
  rw [decide_eq_false (nI_pos hi), nI_clamp hi, nth_eq, h]
  rfl
theorem copy_at {F G : List Int32} {i : Nat} (h1 : i < F.length) (h2 : F.length = G.length) : (F.take i ++ G.drop i)[i]? = G[i]? := by
  rw [List.getElem?_append_right (by rw [List.length_take]; omega), List.length_take, List.getElem?_drop]
  congr 1
  omega
theorem copy_next {F G : List Int32} {i : Nat} {y : Int32} (h1 : F[i]? = some y) (h2 : F.length = G.length) : gPut (F.take i ++ G.drop i) i y = F.take (i + 1) ++ G.drop (i + 1) := by
  have h3 : i < F.length := (List.getElem?_eq_some_iff.mp h1).1
  rw [put_eq]
  apply List.ext_getElem?
  intro j
  rw [List.getElem?_set, List.length_append, List.length_take, List.length_drop]
  by_cases e1 : i = j
  · subst e1
    rw [if_pos rfl, if_pos (by omega), List.getElem?_append_left (by rw [List.length_take]; omega), List.getElem?_take, if_pos (by omega), h1]
  · rw [if_neg e1]
    by_cases e2 : j < i
    · rw [List.getElem?_append_left (by rw [List.length_take]; omega), List.getElem?_append_left (by rw [List.length_take]; omega), List.getElem?_take, List.getElem?_take, if_pos e2, if_pos (by omega)]
    · rw [List.getElem?_append_right (by rw [List.length_take]; omega), List.getElem?_append_right (by rw [List.length_take]; omega), List.length_take, List.length_take, List.getElem?_drop, List.getElem?_drop]
      congr 1
      omega
theorem S0_len : S0.length = 2314 := by
  show ([4, 4] ++ gRep 2312 (0 : Int32)).length = 2314
  rw [List.length_append, rep_len]
  rfl
theorem St_len (t : Int32) : (St t).length = 2314 := by
  unfold St
  rw [put_len, S0_len]
set_option maxRecDepth 200000 in
set_option maxHeartbeats 4000000 in
theorem aside_loop {e : Nat} {S A : List Int32} (hS : S.length = 2314) (hA : A.length = 2314) : ∀ (m i : Nat), i + m = 2314 → Ev none e 154 2 [some (.ref 0), some (.int (nI i))] [] (memS S (S.take i ++ A.drop i)) none (memS S S) 0 0 := by
  intro m
  induction m with
  | zero =>
    intro i h
    have hi : i = 2314 := by omega
    subst hi
    have e1 : S.take 2314 ++ A.drop 2314 = S := by
      rw [List.take_of_length_le (by omega), List.drop_of_length_le (by omega), List.append_nil]
    rw [e1]
    refine Ev.step (pc' := if 2314 ≤ nI 2314 then 27 else 9) (ls' := [some (.ref 0), some (.int (nI 2314))]) (st' := []) (M1 := memS S S) 3 (fun n => rfl) ?_
    rw [if_pos (show (2314 : Int32) ≤ nI 2314 from nI_le (a := 2314) (b := 2314) (by omega) (by omega))]
    exact Ev.ret (fun n => rfl)
  | succ m ih =>
    intro i h
    have h1 := ih (i + 1) (by omega)
    rw [nI_succ] at h1
    have hi : i < 2314 := by omega
    have hy : S[i]? = some (S[i]'(by omega)) := List.getElem?_eq_getElem (by omega)
    have hz : (S.take i ++ A.drop i)[i]? = some (A[i]'(by omega)) := by
      rw [copy_at (by omega) (by omega)]
      exact List.getElem?_eq_getElem (by omega)
    refine Ev.step (pc' := if 2314 ≤ nI i then 27 else 9) (ls' := [some (.ref 0), some (.int (nI i))]) (st' := []) (M1 := memS S (S.take i ++ A.drop i)) 3 (fun n => rfl) ?_
    rw [if_neg (show ¬ (2314 : Int32) ≤ nI i from nI_ge (b := 2314) hi (by omega))]
    refine Ev.step (pc' := 19) (ls' := [some (.ref 0), some (.int (nI i))]) (st' := [.int (nI i), .ref 2, .int (nI i), .ref 4]) (M1 := memS S (S.take i ++ A.drop i)) 6 (fun n => rfl) ?_
    refine Ev.step (pc' := 20) (ls' := [some (.ref 0), some (.int (nI i))]) (st' := [.int (S[i]'(by omega)), .int (nI i), .ref 4]) (M1 := memS S (S.take i ++ A.drop i)) 1 (fun n => iaload_step rfl rfl rfl (at_nI (by omega) hy)) ?_
    refine Ev.step (pc' := 21) (ls' := [some (.ref 0), some (.int (nI i))]) (st' := []) 1 (fun n => iastore_step rfl rfl rfl (at_nI (by omega) hz)) ?_
    rw [put_S4, nI_clamp (by omega), copy_next hy (by omega)]
    exact Ev.step (pc' := 2) (ls' := [some (.ref 0), some (.int (nI i + 1))]) (st' := []) (M1 := memS S (S.take (i + 1) ++ A.drop (i + 1))) 2 (fun n => rfl) h1
theorem aside_r {e : Nat} {S A : List Int32} (hS : S.length = 2314) (hA : A.length = 2314) : Ev none e 154 0 [some (.ref 0), none] [] (memS S A) none (memS S S) 0 0 :=
  Ev.step (pc' := 2) (ls' := [some (.ref 0), some (.int (nI 0))]) (st' := []) (M1 := memS S A) 2 (fun n => rfl) (aside_loop hS hA 2314 0 (by omega))
set_option maxRecDepth 200000 in
set_option maxHeartbeats 4000000 in
theorem back_loop {e : Nat} {S A : List Int32} (hS : S.length = 2314) (hA : A.length = 2314) : ∀ (m i : Nat), i + m = 2314 → Ev none e 155 2 [some (.ref 0), some (.int (nI i))] [] (memS (A.take i ++ S.drop i) A) none (memS A A) 0 0 := by
  intro m
  induction m with
  | zero =>
    intro i h
    have hi : i = 2314 := by omega
    subst hi
    have e1 : A.take 2314 ++ S.drop 2314 = A := by
      rw [List.take_of_length_le (by omega), List.drop_of_length_le (by omega), List.append_nil]
    rw [e1]
    refine Ev.step (pc' := if 2314 ≤ nI 2314 then 27 else 9) (ls' := [some (.ref 0), some (.int (nI 2314))]) (st' := []) (M1 := memS A A) 3 (fun n => rfl) ?_
    rw [if_pos (show (2314 : Int32) ≤ nI 2314 from nI_le (a := 2314) (b := 2314) (by omega) (by omega))]
    exact Ev.ret (fun n => rfl)
  | succ m ih =>
    intro i h
    have h1 := ih (i + 1) (by omega)
    rw [nI_succ] at h1
    have hi : i < 2314 := by omega
    have hy : A[i]? = some (A[i]'(by omega)) := List.getElem?_eq_getElem (by omega)
    have hz : (A.take i ++ S.drop i)[i]? = some (S[i]'(by omega)) := by
      rw [copy_at (by omega) (by omega)]
      exact List.getElem?_eq_getElem (by omega)
    refine Ev.step (pc' := if 2314 ≤ nI i then 27 else 9) (ls' := [some (.ref 0), some (.int (nI i))]) (st' := []) (M1 := memS (A.take i ++ S.drop i) A) 3 (fun n => rfl) ?_
    rw [if_neg (show ¬ (2314 : Int32) ≤ nI i from nI_ge (b := 2314) hi (by omega))]
    refine Ev.step (pc' := 19) (ls' := [some (.ref 0), some (.int (nI i))]) (st' := [.int (nI i), .ref 4, .int (nI i), .ref 2]) (M1 := memS (A.take i ++ S.drop i) A) 6 (fun n => rfl) ?_
    refine Ev.step (pc' := 20) (ls' := [some (.ref 0), some (.int (nI i))]) (st' := [.int (A[i]'(by omega)), .int (nI i), .ref 2]) (M1 := memS (A.take i ++ S.drop i) A) 1 (fun n => iaload_step rfl rfl rfl (at_nI (by omega) hy)) ?_
    refine Ev.step (pc' := 21) (ls' := [some (.ref 0), some (.int (nI i))]) (st' := []) 1 (fun n => iastore_step rfl rfl rfl (at_nI (by omega) hz)) ?_
    rw [put_S2, nI_clamp (by omega), copy_next hy (by omega)]
    exact Ev.step (pc' := 2) (ls' := [some (.ref 0), some (.int (nI i + 1))]) (st' := []) (M1 := memS (A.take (i + 1) ++ S.drop (i + 1)) A) 2 (fun n => rfl) h1
theorem back_r {e : Nat} {S A : List Int32} (hS : S.length = 2314) (hA : A.length = 2314) : Ev none e 155 0 [some (.ref 0), none] [] (memS S A) none (memS A A) 0 0 :=
  Ev.step (pc' := 2) (ls' := [some (.ref 0), some (.int (nI 0))]) (st' := []) (M1 := memS S A) 2 (fun n => rfl) (back_loop hS hA 2314 0 (by omega))
set_option maxRecDepth 200000 in
theorem endw_r : eqR (goHF none 2 518 1200 1 209 0 [some (.ref 0), none, none, none] [] (memS S0 S0)) none (memS S0 S0) 0 0 = true := by decide +kernel
set_option maxRecDepth 200000 in
theorem note_k18 : eqR (goHF none 2 518 400 2 221 0 [some (.ref 0), some (.ref 18), none] [] (memS S0 S0)) none (memS S0 S0) 0 0 = true := by decide +kernel
set_option maxRecDepth 200000 in
theorem note_k19 : eqR (goHF none 2 518 400 2 221 0 [some (.ref 0), some (.ref 19), none] [] (memS S0 S0)) none (memS S0 S0) 0 0 = true := by decide +kernel
set_option maxRecDepth 200000 in
theorem note_k20 : eqR (goHF none 2 518 400 2 221 0 [some (.ref 0), some (.ref 20), none] [] (memS S0 S0)) none (memS S0 S0) 0 0 = true := by decide +kernel
set_option maxRecDepth 200000 in
theorem noted_k : eqR (goHF none 2 518 400 2 222 0 [some (.ref 0), some (.ref 18), none] [] (memS S0 S0)) (some (.int 1)) (memS S0 S0) 0 0 = true := by decide +kernel
theorem note_r18 {e : Nat} (t : Int32) : Ev none (e + 2) 221 0 [some (.ref 0), some (.ref 18), none] [] (memS (St t) S0) none (memS (St t) S0) 0 0 := by
  have h := Ev.hole note_k18 (LE.refl _) none e t
  rw [hM_S] at h
  exact h
theorem note_r19 {e : Nat} (t : Int32) : Ev none (e + 2) 221 0 [some (.ref 0), some (.ref 19), none] [] (memS (St t) S0) none (memS (St t) S0) 0 0 := by
  have h := Ev.hole note_k19 (LE.refl _) none e t
  rw [hM_S] at h
  exact h
theorem note_r20 {e : Nat} (t : Int32) : Ev none (e + 2) 221 0 [some (.ref 0), some (.ref 20), none] [] (memS (St t) S0) none (memS (St t) S0) 0 0 := by
  have h := Ev.hole note_k20 (LE.refl _) none e t
  rw [hM_S] at h
  exact h
theorem noted_r {e : Nat} (t : Int32) : Ev none (e + 2) 222 0 [some (.ref 0), some (.ref 18), none] [] (memS (St t) S0) (some (.int 1)) (memS (St t) S0) 0 0 := by
  have h := Ev.hole noted_k (LE.refl _) none e t
  rw [hM_S] at h
  exact h
theorem endwk_r {e : Nat} (t : Int32) : Ev none (e + 1) 209 0 [some (.ref 0), none, none, none] [] (memS (St t) S0) none (memS (St t) S0) 0 0 := by
  have h := Ev.hole endw_r (LE.refl _) none e t
  rw [hM_S] at h
  exact h
set_option maxRecDepth 200000 in
theorem St_0k : eqL (fun (x y : Int32) => decide (x = y)) S0 (St 0) = true := by decide +kernel
theorem St_0 : S0 = St 0 := eqL_eq (fun x y h => of_decide_eq_true h) _ _ St_0k
theorem St_at (t : Int32) : gAt (St t) (nI 518) = some t := at_nI (by omega) (by
  unfold St
  rw [put_eq, List.getElem?_set, if_pos rfl, if_pos (by rw [S0_len]; omega)])
set_option maxRecDepth 200000 in
set_option maxHeartbeats 4000000 in
theorem tick_r {e : Nat} (t : Int32) (A : List Int32) : Ev none e 205 0 [some (.ref 0), none, none, none] [] (memS (St t) A) none (memS (St (t + 1)) A) 0 0 := by
  refine Ev.step (pc' := 200) (ls' := [some (.ref 0), some (.int 0), none, none]) (st' := []) (M1 := memS (St t) A) 8 (fun n => rfl) ?_
  refine Ev.step (pc' := 243) (ls' := [some (.ref 0), some (.int 0), none, none]) (st' := []) (M1 := memS (St t) A) 8 (fun n => rfl) ?_
  refine Ev.step (pc' := 251) (ls' := [some (.ref 0), some (.int 0), none, none]) (st' := [.int (nI 518), .ref 2, .int (nI 518), .ref 2]) (M1 := memS (St t) A) 4 (fun n => rfl) ?_
  refine Ev.step (pc' := 252) (ls' := [some (.ref 0), some (.int 0), none, none]) (st' := [.int t, .int (nI 518), .ref 2]) (M1 := memS (St t) A) 1 (fun n => iaload_step rfl rfl rfl (St_at t)) ?_
  refine Ev.step (pc' := 254) (ls' := [some (.ref 0), some (.int 0), none, none]) (st' := [.int (t + 1), .int (nI 518), .ref 2]) (M1 := memS (St t) A) 2 (fun n => rfl) ?_
  refine Ev.step (pc' := 255) (ls' := [some (.ref 0), some (.int 0), none, none]) (st' := []) 1 (fun n => iastore_step rfl rfl rfl (St_at t)) ?_
  rw [put_S2, nI_clamp (by omega)]
  have e1 : gPut (St t) 518 (t + 1) = St (t + 1) := put_again
  rw [e1]
  exact Ev.ret (fun n => rfl)
set_option maxRecDepth 200000 in
set_option maxHeartbeats 4000000 in
theorem rloop {e N : Nat} {A : List Int32} (hN : N < 2 ^ 31) : ∀ (m i : Nat) (t : Int32), i + m = N → ∃ t', Ev none (e + 1) 208 41 [some (.ref 0), some (.int (nI N)), some (.int (nI i))] [] (memS (St t) A) (some (.int 0)) (memS (St t') A) 0 0 := by
  intro m
  induction m with
  | zero =>
    intro i t h
    refine ⟨t, ?_⟩
    refine Ev.step (pc' := if nI N ≤ nI i then 56 else 46) (ls' := [some (.ref 0), some (.int (nI N)), some (.int (nI i))]) (st' := []) (M1 := memS (St t) A) 3 (fun n => rfl) ?_
    rw [if_pos (nI_le (by omega) (by omega))]
    refine Ev.step (pc' := 60) (ls' := [some (.ref 0), some (.int (nI N)), some (.int (nI i))]) (st' := [.int 0]) (M1 := memS (St t) A) 2 (fun n => rfl) ?_
    exact Ev.ret (fun n => rfl)
  | succ m ih =>
    intro i t h
    obtain ⟨t', h1⟩ := ih (i + 1) (t + 1) (by omega)
    rw [nI_succ] at h1
    refine ⟨t', ?_⟩
    refine Ev.step (pc' := if nI N ≤ nI i then 56 else 46) (ls' := [some (.ref 0), some (.int (nI N)), some (.int (nI i))]) (st' := []) (M1 := memS (St t) A) 3 (fun n => rfl) ?_
    rw [if_neg (nI_ge (by omega) hN)]
    refine Ev.step (pc' := 47) (ls' := [some (.ref 0), some (.int (nI N)), some (.int (nI i))]) (st' := [.ref 0]) (M1 := memS (St t) A) 1 (fun n => rfl) ?_
    refine Ev.call0 (ls0 := [some (.ref 0), none, none, none]) (rest := []) (id := 205) (v1 := none) (M1 := memS (St (t + 1)) A) (fun n => rfl) (tick_r t A) ?_
    exact Ev.step (pc' := 41) (ls' := [some (.ref 0), some (.int (nI N)), some (.int (nI i + 1))]) (st' := []) (M1 := memS (St (t + 1)) A) 2 (fun n => rfl) h1
set_option maxRecDepth 200000 in
set_option maxHeartbeats 4000000 in
theorem gloop {e N : Nat} (hN : N < 2 ^ 31) : ∀ (m i : Nat) (t : Int32), i + m = N → ∃ t', Ev none (e + 1 + 1) 223 2 [some (.ref 0), some (.int (nI N)), some (.int (nI i))] [] (memS (St t) S0) none (memS (St t') S0) 0 0 := by
  intro m
  induction m with
  | zero =>
    intro i t h
    refine ⟨t, ?_⟩
    refine Ev.step (pc' := if nI N ≤ nI i then 17 else 7) (ls' := [some (.ref 0), some (.int (nI N)), some (.int (nI i))]) (st' := []) (M1 := memS (St t) S0) 3 (fun n => rfl) ?_
    rw [if_pos (nI_le (by omega) (by omega))]
    refine Ev.step (pc' := 18) (ls' := [some (.ref 0), some (.int (nI N)), some (.int (nI i))]) (st' := [.ref 0]) (M1 := memS (St t) S0) 1 (fun n => rfl) ?_
    refine Ev.call0 (ls0 := [some (.ref 0), none, none, none]) (rest := []) (id := 209) (v1 := none) (M1 := memS (St t) S0) (fun n => rfl) (endwk_r (e := e) t) ?_
    exact Ev.ret (fun n => rfl)
  | succ m ih =>
    intro i t h
    obtain ⟨t', h1⟩ := ih (i + 1) (t + 1) (by omega)
    rw [nI_succ] at h1
    refine ⟨t', ?_⟩
    refine Ev.step (pc' := if nI N ≤ nI i then 17 else 7) (ls' := [some (.ref 0), some (.int (nI N)), some (.int (nI i))]) (st' := []) (M1 := memS (St t) S0) 3 (fun n => rfl) ?_
    rw [if_neg (nI_ge (by omega) hN)]
    refine Ev.step (pc' := 8) (ls' := [some (.ref 0), some (.int (nI N)), some (.int (nI i))]) (st' := [.ref 0]) (M1 := memS (St t) S0) 1 (fun n => rfl) ?_
    refine Ev.call0 (ls0 := [some (.ref 0), none, none, none]) (rest := []) (id := 205) (v1 := none) (M1 := memS (St (t + 1)) S0) (fun n => rfl) (tick_r t S0) ?_
    exact Ev.step (pc' := 2) (ls' := [some (.ref 0), some (.int (nI N)), some (.int (nI i + 1))]) (st' := []) (M1 := memS (St (t + 1)) S0) 2 (fun n => rfl) h1
set_option maxRecDepth 200000 in
set_option maxHeartbeats 4000000 in
theorem go_r {e N : Nat} (hN : N < 2 ^ 31) (t : Int32) : ∃ t', Ev none (e + 2) 223 0 [some (.ref 0), some (.int (nI N)), none] [] (memS (St t) S0) none (memS (St t') S0) 0 0 := by
  obtain ⟨t', h1⟩ := gloop (e := e) hN N 0 t (by omega)
  exact ⟨t', Ev.step (pc' := 2) (ls' := [some (.ref 0), some (.int (nI N)), some (.int (nI 0))]) (st' := []) (M1 := memS (St t) S0) 2 (fun n => rfl) h1⟩
theorem run_r {N : Nat} (h1 : ¬ nI N < 1) (h2 : ¬ 400 < nI N) (h3 : 0 + nI N ≤ 60000) (hN : N < 2 ^ 31) : ∃ M1, Ev none 999 208 0 [some (.ref 0), some (.int (nI N)), none] [] memR (some (.int 0)) M1 0 0 := by
  obtain ⟨t', hg⟩ := rloop (e := 998) (A := gRep 2314 0) hN N 0 0 (by omega)
  rw [← St_0] at hg
  rw [memR_S]
  refine ⟨memS (St t') (gRep 2314 0), ?_⟩
  refine Ev.step (pc' := 10) (ls' := [some (.ref 0), some (.int (nI N)), none]) (st' := [.int 400, .int 1, .int (nI N)]) (M1 := memS S0 (gRep 2314 0)) 6 (fun n => rfl) ?_
  refine Ev.call0 (ls0 := [some (.int (nI N)), some (.int 1), some (.int 400)]) (rest := []) (id := 141) (v1 := some (.int 1)) (M1 := memS S0 (gRep 2314 0)) (fun n => rfl) (isin_in h1 h2) ?_
  refine Ev.step (pc' := 29) (ls' := [some (.ref 0), some (.int (nI N)), none]) (st' := [.int 60000, .int (0 + nI N)]) (M1 := memS S0 (gRep 2314 0)) 8 (fun n => rfl) ?_
  refine Ev.step (pc' := if 0 + nI N ≤ 60000 then 34 else 32) (ls' := [some (.ref 0), some (.int (nI N)), none]) (st' := []) (M1 := memS S0 (gRep 2314 0)) 1 (fun n => rfl) ?_
  rw [if_pos h3]
  exact Ev.step (pc' := 41) (ls' := [some (.ref 0), some (.int (nI N)), some (.int (nI 0))]) (st' := []) (M1 := memS S0 (gRep 2314 0)) 5 (fun n => rfl) hg
set_option maxRecDepth 200000 in
set_option maxHeartbeats 4000000 in
theorem rests_r {W K : Nat} (h1 : ¬ nI W < 1) (h2 : ¬ 40 < nI W) (h3 : ¬ nI K < 1) (h4 : ¬ 200 < nI K) (hW : W < 2 ^ 31) (hK : K < 2 ^ 31) : ∃ M1, Ev none 999 224 0 [some (.ref 0), some (.int (nI W)), some (.int (nI K)), none, none] [] memR (some (.int 1)) M1 0 0 := by
  obtain ⟨t', hg⟩ := go_r (e := 996) hK 0
  have hn := note_r18 (e := 996) 0
  rw [← St_0] at hg hn
  rw [memR_S]
  refine ⟨memS S0 S0, ?_⟩
  refine Ev.step (pc' := 9) (ls' := [some (.ref 0), some (.int (nI W)), some (.int (nI K)), none, none]) (st' := [.int 40, .int 1, .int (nI W)]) (M1 := (memS S0 (gRep 2314 0))) 6 (fun n => rfl) ?_
  refine Ev.call0 (ls0 := [some (.int (nI W)), some (.int 1), some (.int 40)]) (rest := []) (id := 141) (v1 := some (.int 1)) (M1 := (memS S0 (gRep 2314 0))) (fun n => rfl) (isin_in h1 h2) ?_
  refine Ev.step (pc' := 20) (ls' := [some (.ref 0), some (.int (nI W)), some (.int (nI K)), none, none]) (st' := [.int 200, .int 1, .int (nI K)]) (M1 := (memS S0 (gRep 2314 0))) 4 (fun n => rfl) ?_
  refine Ev.call0 (ls0 := [some (.int (nI K)), some (.int 1), some (.int 200)]) (rest := []) (id := 141) (v1 := some (.int 1)) (M1 := (memS S0 (gRep 2314 0))) (fun n => rfl) (isin_in h3 h4) ?_
  refine Ev.step (pc' := 30) (ls' := [some (.ref 0), some (.int (nI W)), some (.int (nI K)), none, none]) (st' := [.ref 0]) (M1 := (memS S0 (gRep 2314 0))) 2 (fun n => rfl) ?_
  refine Ev.call0 (ls0 := [some (.ref 0), none]) (rest := []) (id := 154) (v1 := none) (M1 := memS S0 S0) (fun n => rfl) (aside_r S0_len (rep_len _ _)) ?_
  refine Ev.step (pc' := 41) (ls' := [some (.ref 0), some (.int (nI W)), some (.int (nI K)), some (.int (-1)), some (.int 1)]) (st' := [.int (nI W), .int 1]) (M1 := memS S0 S0) 6 (fun n => rfl) ?_
  refine Ev.step (pc' := if nI W < 1 then 81 else 44) (ls' := [some (.ref 0), some (.int (nI W)), some (.int (nI K)), some (.int (-1)), some (.int 1)]) (st' := []) (M1 := memS S0 S0) 1 (fun n => rfl) ?_
  rw [if_neg h1]
  refine Ev.step (pc' := 53) (ls' := [some (.ref 0), some (.int (nI W)), some (.int (nI K)), some (.int (-1)), some (.int 1)]) (st' := [.ref 18, .ref 0]) (M1 := memS S0 S0) 5 (fun n => rfl) ?_
  refine Ev.call0 (ls0 := [some (.ref 0), some (.ref 18), none]) (rest := []) (id := 221) (v1 := none) (M1 := memS S0 S0) (fun n => rfl) hn ?_
  refine Ev.step (pc' := 58) (ls' := [some (.ref 0), some (.int (nI W)), some (.int (nI K)), some (.int (-1)), some (.int 1)]) (st' := [.int (nI K), .ref 0]) (M1 := memS S0 S0) 2 (fun n => rfl) ?_
  refine Ev.call0 (ls0 := [some (.ref 0), some (.int (nI K)), none]) (rest := []) (id := 223) (v1 := none) (fun n => rfl) hg ?_
  refine Ev.step (pc' := 66) (ls' := [some (.ref 0), some (.int (nI W)), some (.int (nI K)), some (.int (-1)), some (.int 1)]) (st' := [.ref 18, .ref 0]) (M1 := memS (St t') S0) 3 (fun n => rfl) ?_
  refine Ev.call0 (ls0 := [some (.ref 0), some (.ref 18), none]) (rest := []) (id := 222) (v1 := some (.int 1)) (M1 := memS (St t') S0) (fun n => rfl) (noted_r (e := 996) t') ?_
  refine Ev.step (pc' := 41) (ls' := [some (.ref 0), some (.int (nI W)), some (.int (nI K)), some (.int 1), some (.int 2)]) (st' := [.int (nI W), .int 2]) (M1 := memS (St t') S0) 7 (fun n => rfl) ?_
  have hend : Ev none 999 224 81 [some (.ref 0), some (.int (nI W)), some (.int (nI K)), some (.int 1), some (.int 2)] [] (memS (St t') S0) (some (.int 1)) (memS S0 S0) 0 0 := by
    refine Ev.step (pc' := 82) (ls' := [some (.ref 0), some (.int (nI W)), some (.int (nI K)), some (.int 1), some (.int 2)]) (st' := [.ref 0]) (M1 := memS (St t') S0) 1 (fun n => rfl) ?_
    refine Ev.call0 (ls0 := [some (.ref 0), none]) (rest := []) (id := 155) (v1 := none) (M1 := memS S0 S0) (fun n => rfl) (back_r (St_len _) S0_len) ?_
    refine Ev.step (pc' := 86) (ls' := [some (.ref 0), some (.int (nI W)), some (.int (nI K)), some (.int 1), some (.int 2)]) (st' := [.int 1]) (M1 := memS S0 S0) 1 (fun n => rfl) ?_
    exact Ev.ret (fun n => rfl)
  refine Ev.step (pc' := if nI W < 2 then 81 else 44) (ls' := [some (.ref 0), some (.int (nI W)), some (.int (nI K)), some (.int 1), some (.int 2)]) (st' := []) (M1 := memS (St t') S0) 1 (fun n => rfl) ?_
  by_cases h5 : nI W < 2
  · rw [if_pos h5]
    exact hend
  · rw [if_neg h5]
    exact Ev.step (pc' := 81) (ls' := [some (.ref 0), some (.int (nI W)), some (.int (nI K)), some (.int 1), some (.int 2)]) (st' := []) (M1 := memS (St t') S0) 2 (fun n => rfl) hend
set_option maxRecDepth 200000 in
theorem zat_k : (List.range 16).all (fun i => decide (gAt (gRep 256 (0 : Int32)) (nI i) = some 0)) = true := by decide +kernel
theorem zat {i : Nat} (hi : i < 16) : gAt (gRep 256 (0 : Int32)) (nI i) = some 0 := of_decide_eq_true (List.all_eq_true.mp zat_k i (List.mem_range.mpr hi))
set_option maxRecDepth 200000 in
set_option maxHeartbeats 4000000 in
theorem cells_r {e : Nat} (t : Int32) : Ev none e 145 0 [some (.ref 0)] [] (memS (St t) S0) (some (.int 16)) (memS (St t) S0) 0 0 := ⟨12, rfl⟩
theorem cnt_loop {e w W K : Nat} (t : Int32) : ∀ (m i : Nat), i + m = 16 → Ev none (e + 1) 231 64 [some (.ref 0), some (.int (nI w)), some (.int (nI W)), some (.int (nI K)), some (.int (nI i))] [] (memS (St t) S0) none (memS S0 S0) 0 0 := by
  intro m
  induction m with
  | zero =>
    intro i h
    have hi : i = 16 := by omega
    subst hi
    refine Ev.step (pc' := 67) (ls' := [some (.ref 0), some (.int (nI w)), some (.int (nI W)), some (.int (nI K)), some (.int (nI 16))]) (st' := [.ref 0, .int (nI 16)]) (M1 := (memS (St t) S0)) 2 (fun n => rfl) ?_
    refine Ev.call0 (ls0 := [some (.ref 0)]) (rest := [.int (nI 16)]) (id := 145) (v1 := some (.int 16)) (M1 := (memS (St t) S0)) (fun n => rfl) (cells_r t) ?_
    refine Ev.step (pc' := if 16 ≤ nI 16 then 171 else 73) (ls' := [some (.ref 0), some (.int (nI w)), some (.int (nI W)), some (.int (nI K)), some (.int (nI 16))]) (st' := []) (M1 := (memS (St t) S0)) 1 (fun n => rfl) ?_
    rw [if_pos (show (16 : Int32) ≤ nI 16 from nI_le (a := 16) (b := 16) (by omega) (by omega))]
    refine Ev.step (pc' := 172) (ls' := [some (.ref 0), some (.int (nI w)), some (.int (nI W)), some (.int (nI K)), some (.int (nI 16))]) (st' := [.ref 0]) (M1 := (memS (St t) S0)) 1 (fun n => rfl) ?_
    refine Ev.call0 (ls0 := [some (.ref 0), none]) (rest := []) (id := 155) (v1 := none) (M1 := memS S0 S0) (fun n => rfl) (back_r (St_len _) S0_len) ?_
    exact Ev.ret (fun n => rfl)
  | succ m ih =>
    intro i h
    have h1 := ih (i + 1) (by omega)
    rw [nI_succ] at h1
    refine Ev.step (pc' := 67) (ls' := [some (.ref 0), some (.int (nI w)), some (.int (nI W)), some (.int (nI K)), some (.int (nI i))]) (st' := [.ref 0, .int (nI i)]) (M1 := (memS (St t) S0)) 2 (fun n => rfl) ?_
    refine Ev.call0 (ls0 := [some (.ref 0)]) (rest := [.int (nI i)]) (id := 145) (v1 := some (.int 16)) (M1 := (memS (St t) S0)) (fun n => rfl) (cells_r t) ?_
    refine Ev.step (pc' := if 16 ≤ nI i then 171 else 73) (ls' := [some (.ref 0), some (.int (nI w)), some (.int (nI W)), some (.int (nI K)), some (.int (nI i))]) (st' := []) (M1 := (memS (St t) S0)) 1 (fun n => rfl) ?_
    rw [if_neg (show ¬ (16 : Int32) ≤ nI i from nI_ge (b := 16) (by omega) (by omega))]
    refine Ev.step (pc' := 84) (ls' := [some (.ref 0), some (.int (nI w)), some (.int (nI W)), some (.int (nI K)), some (.int (nI i))]) (st' := [.int (nI i), .ref 20, .int 0, .ref 0]) (M1 := (memS (St t) S0)) 6 (fun n => rfl) ?_
    refine Ev.step (pc' := 85) (ls' := [some (.ref 0), some (.int (nI w)), some (.int (nI W)), some (.int (nI K)), some (.int (nI i))]) (st' := [.int 0, .int 0, .ref 0]) (M1 := (memS (St t) S0)) 1 (fun n => baload_step rfl rfl rfl (zat (by omega))) ?_
    refine Ev.step (pc' := 108) (ls' := [some (.ref 0), some (.int (nI w)), some (.int (nI W)), some (.int (nI K)), some (.int (nI i))]) (st' := [.int (nI i), .ref 20, .int 0, .ref 0]) (M1 := (memS (St t) S0)) 10 (fun n => rfl) ?_
    refine Ev.step (pc' := 109) (ls' := [some (.ref 0), some (.int (nI w)), some (.int (nI W)), some (.int (nI K)), some (.int (nI i))]) (st' := [.int 0, .int 0, .ref 0]) (M1 := (memS (St t) S0)) 1 (fun n => baload_step rfl rfl rfl (zat (by omega))) ?_
    refine Ev.step (pc' := 142) (ls' := [some (.ref 0), some (.int (nI w)), some (.int (nI W)), some (.int (nI K)), some (.int (nI i))]) (st' := [.int (nI i), .ref 19, .int 0, .ref 0]) (M1 := (memS (St t) S0)) 10 (fun n => rfl) ?_
    refine Ev.step (pc' := 143) (ls' := [some (.ref 0), some (.int (nI w)), some (.int (nI W)), some (.int (nI K)), some (.int (nI i))]) (st' := [.int 0, .int 0, .ref 0]) (M1 := (memS (St t) S0)) 1 (fun n => baload_step rfl rfl rfl (zat (by omega))) ?_
    exact Ev.step (pc' := 64) (ls' := [some (.ref 0), some (.int (nI w)), some (.int (nI W)), some (.int (nI K)), some (.int (nI i + 1))]) (st' := []) (M1 := (memS (St t) S0)) 6 (fun n => rfl) h1
theorem pv_loop {e w W K : Nat} (hW : W < 21) (hw : w < 21) (hK : K < 2 ^ 31) : ∀ (m i : Nat) (t : Int32), i + m = W + 1 → Ev none (e + 3) 231 7 [some (.ref 0), some (.int (nI w)), some (.int (nI W)), some (.int (nI K)), some (.int (nI i))] [] (memS (St t) S0) none (memS S0 S0) 0 0 := by
  intro m
  induction m with
  | zero =>
    intro i t h
    refine Ev.step (pc' := if nI W < nI i then 38 else 13) (ls' := [some (.ref 0), some (.int (nI w)), some (.int (nI W)), some (.int (nI K)), some (.int (nI i))]) (st' := []) (M1 := (memS (St t) S0)) 3 (fun n => rfl) ?_
    rw [if_pos (nI_lt (by omega) (by omega))]
    refine Ev.step (pc' := 43) (ls' := [some (.ref 0), some (.int (nI w)), some (.int (nI W)), some (.int (nI K)), some (.int (nI i))]) (st' := [.ref 19, .ref 0]) (M1 := (memS (St t) S0)) 3 (fun n => rfl) ?_
    refine Ev.call0 (ls0 := [some (.ref 0), some (.ref 19), none]) (rest := []) (id := 221) (v1 := none) (M1 := (memS (St t) S0)) (fun n => rfl) (note_r19 (e := e) t) ?_
    exact Ev.step (pc' := 64) (ls' := [some (.ref 0), some (.int (nI w)), some (.int (nI W)), some (.int (nI K)), some (.int (nI 0))]) (st' := []) (M1 := (memS (St t) S0)) 11 (fun n => rfl) (cnt_loop t 16 0 (by omega))
  | succ m ih =>
    intro i t h
    obtain ⟨t1, hg⟩ := go_r (e := e) hK t
    have h1 := ih (i + 1) t1 (by omega)
    rw [nI_succ] at h1
    refine Ev.step (pc' := if nI W < nI i then 38 else 13) (ls' := [some (.ref 0), some (.int (nI w)), some (.int (nI W)), some (.int (nI K)), some (.int (nI i))]) (st' := []) (M1 := (memS (St t) S0)) 3 (fun n => rfl) ?_
    rw [if_neg (nI_nlt (by omega) (by omega))]
    refine Ev.step (pc' := 15) (ls' := [some (.ref 0), some (.int (nI w)), some (.int (nI W)), some (.int (nI K)), some (.int (nI i))]) (st' := [.int (nI K), .ref 0]) (M1 := (memS (St t) S0)) 2 (fun n => rfl) ?_
    refine Ev.call0 (ls0 := [some (.ref 0), some (.int (nI K)), none]) (rest := []) (id := 223) (v1 := none) (fun n => rfl) hg ?_
    have hend : Ev none (e + 3) 231 32 [some (.ref 0), some (.int (nI w)), some (.int (nI W)), some (.int (nI K)), some (.int (nI i))] [] (memS (St t1) S0) none (memS S0 S0) 0 0 := Ev.step (pc' := 7) (ls' := [some (.ref 0), some (.int (nI w)), some (.int (nI W)), some (.int (nI K)), some (.int (nI i + 1))]) (st' := []) (M1 := memS (St t1) S0) 2 (fun n => rfl) h1
    refine Ev.step (pc' := if nI i = nI w then 24 else 32) (ls' := [some (.ref 0), some (.int (nI w)), some (.int (nI W)), some (.int (nI K)), some (.int (nI i))]) (st' := []) (M1 := memS (St t1) S0) 3 (fun n => rfl) ?_
    by_cases h5 : nI i = nI w
    · rw [if_pos h5]
      refine Ev.step (pc' := 29) (ls' := [some (.ref 0), some (.int (nI w)), some (.int (nI W)), some (.int (nI K)), some (.int (nI i))]) (st' := [.ref 20, .ref 0]) (M1 := memS (St t1) S0) 3 (fun n => rfl) ?_
      exact Ev.call0 (ls0 := [some (.ref 0), some (.ref 20), none]) (rest := []) (id := 221) (v1 := none) (M1 := memS (St t1) S0) (fun n => rfl) (note_r20 (e := e) t1) hend
    · rw [if_neg h5]
      exact hend
theorem pave_r {e w W K : Nat} {A : List Int32} (hW : W < 21) (hw : w < 21) (hK : K < 2 ^ 31) (hA : A.length = 2314) : Ev none (e + 3) 231 0 [some (.ref 0), some (.int (nI w)), some (.int (nI W)), some (.int (nI K)), none] [] (memS S0 A) none (memS S0 S0) 0 0 := by
  have h := pv_loop (e := e) hW hw hK W 1 0 (by omega)
  rw [← St_0] at h
  refine Ev.step (pc' := 1) (ls' := [some (.ref 0), some (.int (nI w)), some (.int (nI W)), some (.int (nI K)), none]) (st' := [.ref 0]) (M1 := memS S0 A) 1 (fun n => rfl) ?_
  refine Ev.call0 (ls0 := [some (.ref 0), none]) (rest := []) (id := 154) (v1 := none) (M1 := memS S0 S0) (fun n => rfl) (aside_r S0_len hA) ?_
  exact Ev.step (pc' := 7) (ls' := [some (.ref 0), some (.int (nI w)), some (.int (nI W)), some (.int (nI K)), some (.int (nI 1))]) (st' := []) (M1 := memS S0 S0) 2 (fun n => rfl) h
set_option maxRecDepth 200000 in
set_option maxHeartbeats 4000000 in
theorem paved_r0 {w W K : Nat} (h1 : ¬ nI W < 1) (h2 : ¬ 20 < nI W) (h3 : ¬ nI K < 1) (h4 : ¬ 200 < nI K) (h5 : ¬ nI w < 1) (h6 : ¬ nI W < nI w) (hw : w < 21) (hW : W < 21) (hK : K < 2 ^ 31) : ∃ M1, Ev none 999 232 0 [some (.ref 0), some (.int (nI w)), some (.int (nI W)), some (.int (nI K)), some (.int 0)] [] memR (some (.int 0)) M1 0 0 := by
  rw [memR_S]
  refine ⟨memS S0 S0, ?_⟩
  refine Ev.step (pc' := 9) (ls' := [some (.ref 0), some (.int (nI w)), some (.int (nI W)), some (.int (nI K)), some (.int 0)]) (st' := [.int 20, .int 1, .int (nI W)]) (M1 := (memS S0 (gRep 2314 0))) 6 (fun n => rfl) ?_
  refine Ev.call0 (ls0 := [some (.int (nI W)), some (.int 1), some (.int 20)]) (rest := []) (id := 141) (v1 := some (.int 1)) (M1 := (memS S0 (gRep 2314 0))) (fun n => rfl) (isin_in h1 h2) ?_
  refine Ev.step (pc' := 18) (ls' := [some (.ref 0), some (.int (nI w)), some (.int (nI W)), some (.int (nI K)), some (.int 0)]) (st' := [.int (nI W), .int 1, .int (nI w)]) (M1 := (memS S0 (gRep 2314 0))) 4 (fun n => rfl) ?_
  refine Ev.call0 (ls0 := [some (.int (nI w)), some (.int 1), some (.int (nI W))]) (rest := []) (id := 141) (v1 := some (.int 1)) (M1 := (memS S0 (gRep 2314 0))) (fun n => rfl) (isin_in h5 h6) ?_
  refine Ev.step (pc' := 29) (ls' := [some (.ref 0), some (.int (nI w)), some (.int (nI W)), some (.int (nI K)), some (.int 0)]) (st' := [.int 200, .int 1, .int (nI K)]) (M1 := (memS S0 (gRep 2314 0))) 4 (fun n => rfl) ?_
  refine Ev.call0 (ls0 := [some (.int (nI K)), some (.int 1), some (.int 200)]) (rest := []) (id := 141) (v1 := some (.int 1)) (M1 := (memS S0 (gRep 2314 0))) (fun n => rfl) (isin_in h3 h4) ?_
  refine Ev.step (pc' := 39) (ls' := [some (.ref 0), some (.int (nI w)), some (.int (nI W)), some (.int (nI K)), some (.int 0)]) (st' := [.int 2, .int 0, .int 0]) (M1 := (memS S0 (gRep 2314 0))) 4 (fun n => rfl) ?_
  refine Ev.call0 (ls0 := [some (.int 0), some (.int 0), some (.int 2)]) (rest := []) (id := 141) (v1 := some (.int 1)) (M1 := (memS S0 (gRep 2314 0))) (fun n => rfl) (isin_in (by decide) (by decide)) ?_
  refine Ev.step (pc' := 51) (ls' := [some (.ref 0), some (.int (nI w)), some (.int (nI W)), some (.int (nI K)), some (.int 0)]) (st' := [.int (nI K), .int (nI W), .int (nI w), .ref 0]) (M1 := (memS S0 (gRep 2314 0))) 5 (fun n => rfl) ?_
  refine Ev.call0 (ls0 := [some (.ref 0), some (.int (nI w)), some (.int (nI W)), some (.int (nI K)), none]) (rest := []) (id := 231) (v1 := none) (M1 := memS S0 S0) (fun n => rfl) (pave_r (e := 995) hW hw hK (rep_len _ _)) ?_
  refine Ev.step (pc' := 83) (ls' := [some (.ref 0), some (.int (nI w)), some (.int (nI W)), some (.int (nI K)), some (.int 0)]) (st' := [.int 0]) (M1 := memS S0 S0) 5 (fun n => rfl) ?_
  exact Ev.ret (fun n => rfl)
set_option maxRecDepth 200000 in
set_option maxHeartbeats 4000000 in
theorem paved_r1 {w W K : Nat} (h1 : ¬ nI W < 1) (h2 : ¬ 20 < nI W) (h3 : ¬ nI K < 1) (h4 : ¬ 200 < nI K) (h5 : ¬ nI w < 1) (h6 : ¬ nI W < nI w) (hw : w < 21) (hW : W < 21) (hK : K < 2 ^ 31) : ∃ M1, Ev none 999 232 0 [some (.ref 0), some (.int (nI w)), some (.int (nI W)), some (.int (nI K)), some (.int 1)] [] memR (some (.int 0)) M1 0 0 := by
  rw [memR_S]
  refine ⟨memS S0 S0, ?_⟩
  refine Ev.step (pc' := 9) (ls' := [some (.ref 0), some (.int (nI w)), some (.int (nI W)), some (.int (nI K)), some (.int 1)]) (st' := [.int 20, .int 1, .int (nI W)]) (M1 := (memS S0 (gRep 2314 0))) 6 (fun n => rfl) ?_
  refine Ev.call0 (ls0 := [some (.int (nI W)), some (.int 1), some (.int 20)]) (rest := []) (id := 141) (v1 := some (.int 1)) (M1 := (memS S0 (gRep 2314 0))) (fun n => rfl) (isin_in h1 h2) ?_
  refine Ev.step (pc' := 18) (ls' := [some (.ref 0), some (.int (nI w)), some (.int (nI W)), some (.int (nI K)), some (.int 1)]) (st' := [.int (nI W), .int 1, .int (nI w)]) (M1 := (memS S0 (gRep 2314 0))) 4 (fun n => rfl) ?_
  refine Ev.call0 (ls0 := [some (.int (nI w)), some (.int 1), some (.int (nI W))]) (rest := []) (id := 141) (v1 := some (.int 1)) (M1 := (memS S0 (gRep 2314 0))) (fun n => rfl) (isin_in h5 h6) ?_
  refine Ev.step (pc' := 29) (ls' := [some (.ref 0), some (.int (nI w)), some (.int (nI W)), some (.int (nI K)), some (.int 1)]) (st' := [.int 200, .int 1, .int (nI K)]) (M1 := (memS S0 (gRep 2314 0))) 4 (fun n => rfl) ?_
  refine Ev.call0 (ls0 := [some (.int (nI K)), some (.int 1), some (.int 200)]) (rest := []) (id := 141) (v1 := some (.int 1)) (M1 := (memS S0 (gRep 2314 0))) (fun n => rfl) (isin_in h3 h4) ?_
  refine Ev.step (pc' := 39) (ls' := [some (.ref 0), some (.int (nI w)), some (.int (nI W)), some (.int (nI K)), some (.int 1)]) (st' := [.int 2, .int 0, .int 1]) (M1 := (memS S0 (gRep 2314 0))) 4 (fun n => rfl) ?_
  refine Ev.call0 (ls0 := [some (.int 1), some (.int 0), some (.int 2)]) (rest := []) (id := 141) (v1 := some (.int 1)) (M1 := (memS S0 (gRep 2314 0))) (fun n => rfl) (isin_in (by decide) (by decide)) ?_
  refine Ev.step (pc' := 51) (ls' := [some (.ref 0), some (.int (nI w)), some (.int (nI W)), some (.int (nI K)), some (.int 1)]) (st' := [.int (nI K), .int (nI W), .int (nI w), .ref 0]) (M1 := (memS S0 (gRep 2314 0))) 5 (fun n => rfl) ?_
  refine Ev.call0 (ls0 := [some (.ref 0), some (.int (nI w)), some (.int (nI W)), some (.int (nI K)), none]) (rest := []) (id := 231) (v1 := none) (M1 := memS S0 S0) (fun n => rfl) (pave_r (e := 995) hW hw hK (rep_len _ _)) ?_
  refine Ev.step (pc' := 83) (ls' := [some (.ref 0), some (.int (nI w)), some (.int (nI W)), some (.int (nI K)), some (.int 1)]) (st' := [.int 0]) (M1 := memS S0 S0) 8 (fun n => rfl) ?_
  exact Ev.ret (fun n => rfl)
set_option maxRecDepth 200000 in
set_option maxHeartbeats 4000000 in
theorem paved_r2 {w W K : Nat} (h1 : ¬ nI W < 1) (h2 : ¬ 20 < nI W) (h3 : ¬ nI K < 1) (h4 : ¬ 200 < nI K) (h5 : ¬ nI w < 1) (h6 : ¬ nI W < nI w) (hw : w < 21) (hW : W < 21) (hK : K < 2 ^ 31) : ∃ M1, Ev none 999 232 0 [some (.ref 0), some (.int (nI w)), some (.int (nI W)), some (.int (nI K)), some (.int 2)] [] memR (some (.int 0)) M1 0 0 := by
  rw [memR_S]
  refine ⟨memS S0 S0, ?_⟩
  refine Ev.step (pc' := 9) (ls' := [some (.ref 0), some (.int (nI w)), some (.int (nI W)), some (.int (nI K)), some (.int 2)]) (st' := [.int 20, .int 1, .int (nI W)]) (M1 := (memS S0 (gRep 2314 0))) 6 (fun n => rfl) ?_
  refine Ev.call0 (ls0 := [some (.int (nI W)), some (.int 1), some (.int 20)]) (rest := []) (id := 141) (v1 := some (.int 1)) (M1 := (memS S0 (gRep 2314 0))) (fun n => rfl) (isin_in h1 h2) ?_
  refine Ev.step (pc' := 18) (ls' := [some (.ref 0), some (.int (nI w)), some (.int (nI W)), some (.int (nI K)), some (.int 2)]) (st' := [.int (nI W), .int 1, .int (nI w)]) (M1 := (memS S0 (gRep 2314 0))) 4 (fun n => rfl) ?_
  refine Ev.call0 (ls0 := [some (.int (nI w)), some (.int 1), some (.int (nI W))]) (rest := []) (id := 141) (v1 := some (.int 1)) (M1 := (memS S0 (gRep 2314 0))) (fun n => rfl) (isin_in h5 h6) ?_
  refine Ev.step (pc' := 29) (ls' := [some (.ref 0), some (.int (nI w)), some (.int (nI W)), some (.int (nI K)), some (.int 2)]) (st' := [.int 200, .int 1, .int (nI K)]) (M1 := (memS S0 (gRep 2314 0))) 4 (fun n => rfl) ?_
  refine Ev.call0 (ls0 := [some (.int (nI K)), some (.int 1), some (.int 200)]) (rest := []) (id := 141) (v1 := some (.int 1)) (M1 := (memS S0 (gRep 2314 0))) (fun n => rfl) (isin_in h3 h4) ?_
  refine Ev.step (pc' := 39) (ls' := [some (.ref 0), some (.int (nI w)), some (.int (nI W)), some (.int (nI K)), some (.int 2)]) (st' := [.int 2, .int 0, .int 2]) (M1 := (memS S0 (gRep 2314 0))) 4 (fun n => rfl) ?_
  refine Ev.call0 (ls0 := [some (.int 2), some (.int 0), some (.int 2)]) (rest := []) (id := 141) (v1 := some (.int 1)) (M1 := (memS S0 (gRep 2314 0))) (fun n => rfl) (isin_in (by decide) (by decide)) ?_
  refine Ev.step (pc' := 51) (ls' := [some (.ref 0), some (.int (nI w)), some (.int (nI W)), some (.int (nI K)), some (.int 2)]) (st' := [.int (nI K), .int (nI W), .int (nI w), .ref 0]) (M1 := (memS S0 (gRep 2314 0))) 5 (fun n => rfl) ?_
  refine Ev.call0 (ls0 := [some (.ref 0), some (.int (nI w)), some (.int (nI W)), some (.int (nI K)), none]) (rest := []) (id := 231) (v1 := none) (M1 := memS S0 S0) (fun n => rfl) (pave_r (e := 995) hW hw hK (rep_len _ _)) ?_
  refine Ev.step (pc' := 83) (ls' := [some (.ref 0), some (.int (nI w)), some (.int (nI W)), some (.int (nI K)), some (.int 2)]) (st' := [.int 0]) (M1 := memS S0 S0) 7 (fun n => rfl) ?_
  exact Ev.ret (fun n => rfl)
set_option maxRecDepth 200000 in
set_option maxHeartbeats 4000000 in
theorem wr_loop {W K : Nat} (hW : W < 21) (hK : K < 2 ^ 31) : ∀ (m i : Nat) (x : Int32), 1 ≤ i → i + m = W + 1 → Ev none 999 233 36 [some (.ref 0), some (.int (nI W)), some (.int (nI K)), some (.int 1), some (.int 1), some (.int (nI i)), some (.int x)] [] (memS S0 S0) (some (.int 1)) (memS S0 S0) 0 0 := by
  intro m
  induction m with
  | zero =>
    intro i x h0 h
    refine Ev.step (pc' := if nI W < nI i then 91 else 42) (ls' := [some (.ref 0), some (.int (nI W)), some (.int (nI K)), some (.int 1), some (.int 1), some (.int (nI i)), some (.int x)]) (st' := []) (M1 := memS S0 S0) 3 (fun n => rfl) ?_
    rw [if_pos (nI_lt (by omega) (by omega))]
    refine Ev.step (pc' := 92) (ls' := [some (.ref 0), some (.int (nI W)), some (.int (nI K)), some (.int 1), some (.int 1), some (.int (nI i)), some (.int x)]) (st' := [.int 1]) (M1 := memS S0 S0) 1 (fun n => rfl) ?_
    exact Ev.ret (fun n => rfl)
  | succ m ih =>
    intro i x h0 h
    have h1 := ih (i + 1) (0 + nI i) (by omega) (by omega)
    rw [nI_succ] at h1
    refine Ev.step (pc' := if nI W < nI i then 91 else 42) (ls' := [some (.ref 0), some (.int (nI W)), some (.int (nI K)), some (.int 1), some (.int 1), some (.int (nI i)), some (.int x)]) (st' := []) (M1 := memS S0 S0) 3 (fun n => rfl) ?_
    rw [if_neg (nI_nlt (by omega) (by omega))]
    refine Ev.step (pc' := 47) (ls' := [some (.ref 0), some (.int (nI W)), some (.int (nI K)), some (.int 1), some (.int 1), some (.int (nI i)), some (.int x)]) (st' := [.int (nI K), .int (nI W), .int (nI i), .ref 0]) (M1 := memS S0 S0) 4 (fun n => rfl) ?_
    refine Ev.call0 (ls0 := [some (.ref 0), some (.int (nI i)), some (.int (nI W)), some (.int (nI K)), none]) (rest := []) (id := 231) (v1 := none) (M1 := memS S0 S0) (fun n => rfl) (pave_r (e := 995) hW (by omega) hK S0_len) ?_
    refine Ev.step (pc' := 72) (ls' := [some (.ref 0), some (.int (nI W)), some (.int (nI K)), some (.int 1), some (.int 1), some (.int (nI i)), some (.int (0 + nI i))]) (st' := [.int 1, .int (0 + nI i)]) (M1 := memS S0 S0) 12 (fun n => rfl) ?_
    refine Ev.step (pc' := if 0 + nI i < 1 then 78 else 75) (ls' := [some (.ref 0), some (.int (nI W)), some (.int (nI K)), some (.int 1), some (.int 1), some (.int (nI i)), some (.int (0 + nI i))]) (st' := []) (M1 := memS S0 S0) 1 (fun n => rfl) ?_
    rw [if_neg (show ¬ (0 + nI i < 1) by
      have e1 : nI 0 + nI i = nI (0 + i) := nI_add 0 i
      have e2 : (0 : Int32) + nI i = nI (0 + i) := e1
      rw [e2]
      exact nI_nlt (b := 1) (by omega) (by omega))]
    exact Ev.step (pc' := 36) (ls' := [some (.ref 0), some (.int (nI W)), some (.int (nI K)), some (.int 1), some (.int 1), some (.int (nI i + 1)), some (.int (0 + nI i))]) (st' := []) (M1 := memS S0 S0) 3 (fun n => rfl) h1
theorem wait_r {W K : Nat} (h1 : ¬ nI W < 1) (h2 : ¬ 20 < nI W) (h3 : ¬ nI K < 1) (h4 : ¬ 200 < nI K) (hW1 : 1 ≤ W) (hW : W < 21) (hK : K < 2 ^ 31) : ∃ M1, Ev none 999 233 0 [some (.ref 0), some (.int (nI W)), some (.int (nI K)), none, none, none, none] [] memR (some (.int 1)) M1 0 0 := by
  have hl := wr_loop (K := K) hW hK (W - 1) 2 (0 + nI 1) (by omega) (by omega)
  rw [memR_S]
  refine ⟨memS S0 S0, ?_⟩
  refine Ev.step (pc' := 9) (ls' := [some (.ref 0), some (.int (nI W)), some (.int (nI K)), none, none, none, none]) (st' := [.int 20, .int 1, .int (nI W)]) (M1 := (memS S0 (gRep 2314 0))) 6 (fun n => rfl) ?_
  refine Ev.call0 (ls0 := [some (.int (nI W)), some (.int 1), some (.int 20)]) (rest := []) (id := 141) (v1 := some (.int 1)) (M1 := (memS S0 (gRep 2314 0))) (fun n => rfl) (isin_in h1 h2) ?_
  refine Ev.step (pc' := 20) (ls' := [some (.ref 0), some (.int (nI W)), some (.int (nI K)), none, none, none, none]) (st' := [.int 200, .int 1, .int (nI K)]) (M1 := (memS S0 (gRep 2314 0))) 4 (fun n => rfl) ?_
  refine Ev.call0 (ls0 := [some (.int (nI K)), some (.int 1), some (.int 200)]) (rest := []) (id := 141) (v1 := some (.int 1)) (M1 := (memS S0 (gRep 2314 0))) (fun n => rfl) (isin_in h3 h4) ?_
  refine Ev.step (pc' := 36) (ls' := [some (.ref 0), some (.int (nI W)), some (.int (nI K)), some (.int (-1)), some (.int 0), some (.int (nI 1)), none]) (st' := []) (M1 := (memS S0 (gRep 2314 0))) 7 (fun n => rfl) ?_
  refine Ev.step (pc' := if nI W < nI 1 then 91 else 42) (ls' := [some (.ref 0), some (.int (nI W)), some (.int (nI K)), some (.int (-1)), some (.int 0), some (.int (nI 1)), none]) (st' := []) (M1 := (memS S0 (gRep 2314 0))) 3 (fun n => rfl) ?_
  rw [if_neg (nI_nlt (by omega) (by omega))]
  refine Ev.step (pc' := 47) (ls' := [some (.ref 0), some (.int (nI W)), some (.int (nI K)), some (.int (-1)), some (.int 0), some (.int (nI 1)), none]) (st' := [.int (nI K), .int (nI W), .int (nI 1), .ref 0]) (M1 := (memS S0 (gRep 2314 0))) 4 (fun n => rfl) ?_
  refine Ev.call0 (ls0 := [some (.ref 0), some (.int (nI 1)), some (.int (nI W)), some (.int (nI K)), none]) (rest := []) (id := 231) (v1 := none) (M1 := memS S0 S0) (fun n => rfl) (pave_r (e := 995) hW (by omega) hK (rep_len _ _)) ?_
  exact Ev.step (pc' := 36) (ls' := [some (.ref 0), some (.int (nI W)), some (.int (nI K)), some (.int 1), some (.int 1), some (.int (nI 2)), some (.int (0 + nI 1))]) (st' := []) (M1 := memS S0 S0) 16 (fun n => rfl) hl
