/-! PURE: calls on the fresh objects -/
set_option maxRecDepth 200000 in
theorem lay_kc : (List.range 16).all (fun c => (List.range 7).all (fun k => okR (goF none 800 999 95 0 [some (.ref 0), some (.int (nI c)), some (.int (nI k))] [] memP) (some (.int 1)))) = true := by decide +kernel
theorem lay_c {c k : Nat} (hc : c < 16) (hk : k < 7) : ∃ M1, Ev none 999 95 0 [some (.ref 0), some (.int (nI c)), some (.int (nI k))] [] memP (some (.int 1)) M1 0 0 := okR_ev (List.all_eq_true.mp (List.all_eq_true.mp lay_kc c (List.mem_range.mpr hc)) k (List.mem_range.mpr hk))
set_option maxRecDepth 200000 in
theorem lay_kr : (List.range 16).all (fun c => (List.range 7).all (fun k => okR (goF none 800 999 213 0 [some (.ref 0), some (.int (nI c)), some (.int (nI k))] [] memR) (some (.int 1)))) = true := by decide +kernel
theorem lay_r {c k : Nat} (hc : c < 16) (hk : k < 7) : ∃ M1, Ev none 999 213 0 [some (.ref 0), some (.int (nI c)), some (.int (nI k))] [] memR (some (.int 1)) M1 0 0 := okR_ev (List.all_eq_true.mp (List.all_eq_true.mp lay_kr c (List.mem_range.mpr hc)) k (List.mem_range.mpr hk))
noncomputable def memK (K : List Int32) : Mem := [.inr (11, [.int 0, .ref 1, .int 0, .int 0, .int 0, .ref 2, .ref 3, .ref 4, .ref 5, .ref 6, .ref 7, .ref 8, .ref 9, .ref 10, .ref 11, .ref 12, .ref 13, .ref 14, .ref 15, .int 0, .int 0, .int 0, .int 0, .int 0, .int 0, .int 0, .int 0, .int 0, .int 40, .int 50, .int 10, .long 0, .int 0, .ref 16, .int 0, .int 0, .int 0, .int 0, .int 0, .int 0, .int (-1), .int 0, .int 0, .ref 17, .ref 18, .ref 19, .ref 20, .ref 21, .ref 22, .int 0, .int 0, .int 0, .ref 23, .int 0, .ref 24, .ref 25, .ref 26, .ref 27, .ref 28, .ref 29, .int 0, .int 0, .int 0]),
  .inl (0, .inl (gRep 440 0)),
  .inl (1, .inl ([4, 4] ++ gRep 2312 0)),
  .inl (1, .inl K),
  .inl (1, .inl (gRep 2314 0)),
  .inl (3, .inl ([0, 0, 0])),
  .inl (1, .inl (gRep 8 0)),
  .inl (1, .inl (gRep 128 0)),
  .inl (1, .inl (gRep 128 0)),
  .inl (1, .inl (gRep 128 0)),
  .inl (1, .inl (gRep 128 0)),
  .inl (1, .inl (gRep 128 0)),
  .inl (1, .inl (gRep 1600 0)),
  .inl (1, .inl (gRep 1600 0)),
  .inl (1, .inl (gRep 1600 0)),
  .inl (1, .inl (gRep 100 0)),
  .inl (3, .inl (gRep 60 0)),
  .inl (3, .inl (gRep 256 0)),
  .inl (3, .inl (gRep 256 0)),
  .inl (3, .inl (gRep 256 0)),
  .inl (3, .inl (gRep 256 0)),
  .inl (1, .inl (gRep 16384 0)),
  .inl (1, .inl (gRep 256 0)),
  .inl (1, .inl ([0, 0])),
  .inl (1, .inl (gRep 201 0)),
  .inl (1, .inl (gRep 201 0)),
  .inl (1, .inl (gRep 1280 0)),
  .inl (1, .inl ([0, 0, 0, 0, 0])),
  .inl (1, .inl ([0, 0, 0, 0, 0])),
  .inl (1, .inl ([0, 0, 0, 0, 0]))]
theorem memR_K : memR = memK (gRep 6942 0) := rfl
theorem put_K (K X : List Int32) : gPut (memK K) 3 (.inl (1, .inl X)) = memK X := rfl
theorem mid_at {P X T : List Int32} {i : Nat} (h : i < X.length) : (P ++ (X ++ T))[P.length + i]? = X[i]? := by
  rw [List.getElem?_append_right (by omega), Nat.add_sub_cancel_left, List.getElem?_append_left h]
theorem mid_put {P X T : List Int32} {i : Nat} {y : Int32} (h : i < X.length) : gPut (P ++ (X ++ T)) (P.length + i) y = P ++ (gPut X i y ++ T) := by
  rw [put_eq, put_eq, List.set_append_right _ _ (by omega), Nat.add_sub_cancel_left, List.set_append_left _ _ h]
theorem rep_three (a b c : Nat) : gRep (a + (b + c)) (0 : Int32) = gRep a 0 ++ (gRep b 0 ++ gRep c 0) := by
  rw [rep_eq, rep_eq, rep_eq, rep_eq, List.replicate_append_replicate, List.replicate_append_replicate]
noncomputable def dI (b i : Nat) : List Int32 := gRep b 0 ++ ((S0.take i ++ (gRep 2314 0).drop i) ++ gRep (4628 - b) 0)
theorem dI_0 {b : Nat} (h : b ≤ 4628) : gRep 6942 0 = dI b 0 := by
  have e : 6942 = b + (2314 + (4628 - b)) := by omega
  unfold dI
  rw [e, rep_three, List.take_zero, List.drop_zero, List.nil_append]
  try (congr 3; omega)
set_option maxRecDepth 200000 in
set_option maxHeartbeats 4000000 in
theorem img_loop0 {M1 : Mem} (hend : Ev none 999 247 49 [some (.ref 0), some (.int 0), some (.int (nI 2314))] [] (memK (dI 0 2314)) (some (.int 1)) M1 0 0) : ∀ (m i : Nat), i + m = 2314 → Ev none 999 247 18 [some (.ref 0), some (.int 0), some (.int (nI i))] [] (memK (dI 0 i)) (some (.int 1)) M1 0 0 := by
  intro m
  induction m with
  | zero =>
    intro i h
    have hi : i = 2314 := by omega
    subst hi
    refine Ev.step (pc' := if 2314 ≤ nI 2314 then 49 else 25) (ls' := [some (.ref 0), some (.int 0), some (.int (nI 2314))]) (st' := []) (M1 := memK (dI 0 2314)) 3 (fun n => rfl) ?_
    rw [if_pos (show (2314 : Int32) ≤ nI 2314 from nI_le (a := 2314) (b := 2314) (by omega) (by omega))]
    exact hend
  | succ m ih =>
    intro i h
    have h1 := ih (i + 1) (by omega)
    rw [nI_succ] at h1
    have hi : i < 2314 := by omega
    have hS : S0.length = 2314 := S0_len
    have hR : (gRep 2314 (0 : Int32)).length = 2314 := rep_len _ _
    have hX : (S0.take i ++ (gRep 2314 (0 : Int32)).drop i).length = 2314 := by
      rw [List.length_append, List.length_take, List.length_drop]
      omega
    have hy : S0[i]? = some (S0[i]'(by omega)) := List.getElem?_eq_getElem (by omega)
    have hP : (gRep 0 (0 : Int32)).length = 0 := rep_len _ _
    have hz : (dI 0 i)[0 + i]? = some ((gRep 2314 (0 : Int32))[i]'(by omega)) := by
      unfold dI
      have e := mid_at (P := gRep 0 (0 : Int32)) (X := S0.take i ++ (gRep 2314 (0 : Int32)).drop i) (T := gRep (4628 - 0) 0) (i := i) (by omega)
      rw [hP] at e
      rw [e, copy_at (by omega) (by omega)]
      exact List.getElem?_eq_getElem (by omega)
    have hp : gPut (dI 0 i) (0 + i) (S0[i]'(by omega)) = dI 0 (i + 1) := by
      unfold dI
      have e := mid_put (P := gRep 0 (0 : Int32)) (X := S0.take i ++ (gRep 2314 (0 : Int32)).drop i) (T := gRep (4628 - 0) 0) (i := i) (y := S0[i]'(by omega)) (by omega)
      rw [hP] at e
      rw [e, copy_next hy (by omega)]
    refine Ev.step (pc' := if 2314 ≤ nI i then 49 else 25) (ls' := [some (.ref 0), some (.int 0), some (.int (nI i))]) (st' := []) (M1 := memK (dI 0 i)) 3 (fun n => rfl) ?_
    rw [if_neg (show ¬ (2314 : Int32) ≤ nI i from nI_ge (b := 2314) hi (by omega))]
    refine Ev.step (pc' := 41) (ls' := [some (.ref 0), some (.int 0), some (.int (nI i))]) (st' := [.int (nI i), .ref 2, .int (0 + nI i), .ref 3]) (M1 := memK (dI 0 i)) 10 (fun n => rfl) ?_
    refine Ev.step (pc' := 42) (ls' := [some (.ref 0), some (.int 0), some (.int (nI i))]) (st' := [.int (S0[i]'(by omega)), .int (0 + nI i), .ref 3]) (M1 := memK (dI 0 i)) 1 (fun n => iaload_step rfl rfl (l := S0) rfl (at_nI (by omega) hy)) ?_
    have eb : (0 : Int32) + nI i = nI (0 + i) := nI_add 0 i
    rw [eb]
    refine Ev.step (pc' := 43) (ls' := [some (.ref 0), some (.int 0), some (.int (nI i))]) (st' := []) 1 (fun n => iastore_step rfl rfl rfl (at_nI (by omega) hz)) ?_
    rw [put_K, nI_clamp (by omega), hp]
    exact Ev.step (pc' := 18) (ls' := [some (.ref 0), some (.int 0), some (.int (nI i + 1))]) (st' := []) (M1 := memK (dI 0 (i + 1))) 2 (fun n => rfl) h1
set_option maxRecDepth 200000 in
set_option maxHeartbeats 4000000 in
theorem image_r0 : ∃ M1, Ev none 999 247 0 [some (.ref 0), some (.int 0), none] [] memR (some (.int 1)) M1 0 0 := by
  have hend : ∃ M1, Ev none 999 247 49 [some (.ref 0), some (.int 0), some (.int (nI 2314))] [] (memK (dI 0 2314)) (some (.int 1)) M1 0 0 := by
    apply Exists.intro
    apply Ev.step (pc' := 57) (ls' := [some (.ref 0), some (.int 0), some (.int (nI 2314))]) (st' := [.int 1]) (M1 := _) 6 (fun n => rfl)
    exact Ev.ret (fun n => rfl)
  obtain ⟨M1, hend⟩ := hend
  have h := img_loop0 hend 2314 0 (by omega)
  rw [← dI_0 (by omega), ← memR_K] at h
  refine ⟨M1, ?_⟩
  refine Ev.step (pc' := 8) (ls' := [some (.ref 0), some (.int 0), none]) (st' := [.int 2, .int 0, .int 0]) (M1 := memR) 6 (fun n => rfl) ?_
  refine Ev.call0 (ls0 := [some (.int 0), some (.int 0), some (.int 2)]) (rest := []) (id := 141) (v1 := some (.int 1)) (M1 := memR) (fun n => rfl) (isin_in (by decide) (by decide)) ?_
  exact Ev.step (pc' := 18) (ls' := [some (.ref 0), some (.int 0), some (.int (nI 0))]) (st' := []) (M1 := memR) 3 (fun n => rfl) h
set_option maxRecDepth 200000 in
theorem image_k0 : okR (goF none 600 999 123 0 [some (.ref 0), some (.int 0)] [] memP) (some (.int 1)) = true := by decide +kernel
theorem image_c0 : ∃ M1, Ev none 999 123 0 [some (.ref 0), some (.int 0)] [] memP (some (.int 1)) M1 0 0 := okR_ev image_k0
set_option maxRecDepth 200000 in
set_option maxHeartbeats 4000000 in
theorem img_loop1 {M1 : Mem} (hend : Ev none 999 247 49 [some (.ref 0), some (.int 1), some (.int (nI 2314))] [] (memK (dI 2314 2314)) (some (.int 1)) M1 0 0) : ∀ (m i : Nat), i + m = 2314 → Ev none 999 247 18 [some (.ref 0), some (.int 1), some (.int (nI i))] [] (memK (dI 2314 i)) (some (.int 1)) M1 0 0 := by
  intro m
  induction m with
  | zero =>
    intro i h
    have hi : i = 2314 := by omega
    subst hi
    refine Ev.step (pc' := if 2314 ≤ nI 2314 then 49 else 25) (ls' := [some (.ref 0), some (.int 1), some (.int (nI 2314))]) (st' := []) (M1 := memK (dI 2314 2314)) 3 (fun n => rfl) ?_
    rw [if_pos (show (2314 : Int32) ≤ nI 2314 from nI_le (a := 2314) (b := 2314) (by omega) (by omega))]
    exact hend
  | succ m ih =>
    intro i h
    have h1 := ih (i + 1) (by omega)
    rw [nI_succ] at h1
    have hi : i < 2314 := by omega
    have hS : S0.length = 2314 := S0_len
    have hR : (gRep 2314 (0 : Int32)).length = 2314 := rep_len _ _
    have hX : (S0.take i ++ (gRep 2314 (0 : Int32)).drop i).length = 2314 := by
      rw [List.length_append, List.length_take, List.length_drop]
      omega
    have hy : S0[i]? = some (S0[i]'(by omega)) := List.getElem?_eq_getElem (by omega)
    have hP : (gRep 2314 (0 : Int32)).length = 2314 := rep_len _ _
    have hz : (dI 2314 i)[2314 + i]? = some ((gRep 2314 (0 : Int32))[i]'(by omega)) := by
      unfold dI
      have e := mid_at (P := gRep 2314 (0 : Int32)) (X := S0.take i ++ (gRep 2314 (0 : Int32)).drop i) (T := gRep (4628 - 2314) 0) (i := i) (by omega)
      rw [hP] at e
      rw [e, copy_at (by omega) (by omega)]
      exact List.getElem?_eq_getElem (by omega)
    have hp : gPut (dI 2314 i) (2314 + i) (S0[i]'(by omega)) = dI 2314 (i + 1) := by
      unfold dI
      have e := mid_put (P := gRep 2314 (0 : Int32)) (X := S0.take i ++ (gRep 2314 (0 : Int32)).drop i) (T := gRep (4628 - 2314) 0) (i := i) (y := S0[i]'(by omega)) (by omega)
      rw [hP] at e
      rw [e, copy_next hy (by omega)]
    refine Ev.step (pc' := if 2314 ≤ nI i then 49 else 25) (ls' := [some (.ref 0), some (.int 1), some (.int (nI i))]) (st' := []) (M1 := memK (dI 2314 i)) 3 (fun n => rfl) ?_
    rw [if_neg (show ¬ (2314 : Int32) ≤ nI i from nI_ge (b := 2314) hi (by omega))]
    refine Ev.step (pc' := 41) (ls' := [some (.ref 0), some (.int 1), some (.int (nI i))]) (st' := [.int (nI i), .ref 2, .int (2314 + nI i), .ref 3]) (M1 := memK (dI 2314 i)) 10 (fun n => rfl) ?_
    refine Ev.step (pc' := 42) (ls' := [some (.ref 0), some (.int 1), some (.int (nI i))]) (st' := [.int (S0[i]'(by omega)), .int (2314 + nI i), .ref 3]) (M1 := memK (dI 2314 i)) 1 (fun n => iaload_step rfl rfl (l := S0) rfl (at_nI (by omega) hy)) ?_
    have eb : (2314 : Int32) + nI i = nI (2314 + i) := nI_add 2314 i
    rw [eb]
    refine Ev.step (pc' := 43) (ls' := [some (.ref 0), some (.int 1), some (.int (nI i))]) (st' := []) 1 (fun n => iastore_step rfl rfl rfl (at_nI (by omega) hz)) ?_
    rw [put_K, nI_clamp (by omega), hp]
    exact Ev.step (pc' := 18) (ls' := [some (.ref 0), some (.int 1), some (.int (nI i + 1))]) (st' := []) (M1 := memK (dI 2314 (i + 1))) 2 (fun n => rfl) h1
set_option maxRecDepth 200000 in
set_option maxHeartbeats 4000000 in
theorem image_r1 : ∃ M1, Ev none 999 247 0 [some (.ref 0), some (.int 1), none] [] memR (some (.int 1)) M1 0 0 := by
  have hend : ∃ M1, Ev none 999 247 49 [some (.ref 0), some (.int 1), some (.int (nI 2314))] [] (memK (dI 2314 2314)) (some (.int 1)) M1 0 0 := by
    apply Exists.intro
    apply Ev.step (pc' := 57) (ls' := [some (.ref 0), some (.int 1), some (.int (nI 2314))]) (st' := [.int 1]) (M1 := _) 6 (fun n => rfl)
    exact Ev.ret (fun n => rfl)
  obtain ⟨M1, hend⟩ := hend
  have h := img_loop1 hend 2314 0 (by omega)
  rw [← dI_0 (by omega), ← memR_K] at h
  refine ⟨M1, ?_⟩
  refine Ev.step (pc' := 8) (ls' := [some (.ref 0), some (.int 1), none]) (st' := [.int 2, .int 0, .int 1]) (M1 := memR) 6 (fun n => rfl) ?_
  refine Ev.call0 (ls0 := [some (.int 1), some (.int 0), some (.int 2)]) (rest := []) (id := 141) (v1 := some (.int 1)) (M1 := memR) (fun n => rfl) (isin_in (by decide) (by decide)) ?_
  exact Ev.step (pc' := 18) (ls' := [some (.ref 0), some (.int 1), some (.int (nI 0))]) (st' := []) (M1 := memR) 3 (fun n => rfl) h
set_option maxRecDepth 200000 in
theorem image_k1 : okR (goF none 600 999 123 0 [some (.ref 0), some (.int 1)] [] memP) (some (.int 1)) = true := by decide +kernel
theorem image_c1 : ∃ M1, Ev none 999 123 0 [some (.ref 0), some (.int 1)] [] memP (some (.int 1)) M1 0 0 := okR_ev image_k1
set_option maxRecDepth 200000 in
set_option maxHeartbeats 4000000 in
theorem img_loop2 {M1 : Mem} (hend : Ev none 999 247 49 [some (.ref 0), some (.int 2), some (.int (nI 2314))] [] (memK (dI 4628 2314)) (some (.int 1)) M1 0 0) : ∀ (m i : Nat), i + m = 2314 → Ev none 999 247 18 [some (.ref 0), some (.int 2), some (.int (nI i))] [] (memK (dI 4628 i)) (some (.int 1)) M1 0 0 := by
  intro m
  induction m with
  | zero =>
    intro i h
    have hi : i = 2314 := by omega
    subst hi
    refine Ev.step (pc' := if 2314 ≤ nI 2314 then 49 else 25) (ls' := [some (.ref 0), some (.int 2), some (.int (nI 2314))]) (st' := []) (M1 := memK (dI 4628 2314)) 3 (fun n => rfl) ?_
    rw [if_pos (show (2314 : Int32) ≤ nI 2314 from nI_le (a := 2314) (b := 2314) (by omega) (by omega))]
    exact hend
  | succ m ih =>
    intro i h
    have h1 := ih (i + 1) (by omega)
    rw [nI_succ] at h1
    have hi : i < 2314 := by omega
    have hS : S0.length = 2314 := S0_len
    have hR : (gRep 2314 (0 : Int32)).length = 2314 := rep_len _ _
    have hX : (S0.take i ++ (gRep 2314 (0 : Int32)).drop i).length = 2314 := by
      rw [List.length_append, List.length_take, List.length_drop]
      omega
    have hy : S0[i]? = some (S0[i]'(by omega)) := List.getElem?_eq_getElem (by omega)
    have hP : (gRep 4628 (0 : Int32)).length = 4628 := rep_len _ _
    have hz : (dI 4628 i)[4628 + i]? = some ((gRep 2314 (0 : Int32))[i]'(by omega)) := by
      unfold dI
      have e := mid_at (P := gRep 4628 (0 : Int32)) (X := S0.take i ++ (gRep 2314 (0 : Int32)).drop i) (T := gRep (4628 - 4628) 0) (i := i) (by omega)
      rw [hP] at e
      rw [e, copy_at (by omega) (by omega)]
      exact List.getElem?_eq_getElem (by omega)
    have hp : gPut (dI 4628 i) (4628 + i) (S0[i]'(by omega)) = dI 4628 (i + 1) := by
      unfold dI
      have e := mid_put (P := gRep 4628 (0 : Int32)) (X := S0.take i ++ (gRep 2314 (0 : Int32)).drop i) (T := gRep (4628 - 4628) 0) (i := i) (y := S0[i]'(by omega)) (by omega)
      rw [hP] at e
      rw [e, copy_next hy (by omega)]
    refine Ev.step (pc' := if 2314 ≤ nI i then 49 else 25) (ls' := [some (.ref 0), some (.int 2), some (.int (nI i))]) (st' := []) (M1 := memK (dI 4628 i)) 3 (fun n => rfl) ?_
    rw [if_neg (show ¬ (2314 : Int32) ≤ nI i from nI_ge (b := 2314) hi (by omega))]
    refine Ev.step (pc' := 41) (ls' := [some (.ref 0), some (.int 2), some (.int (nI i))]) (st' := [.int (nI i), .ref 2, .int (4628 + nI i), .ref 3]) (M1 := memK (dI 4628 i)) 10 (fun n => rfl) ?_
    refine Ev.step (pc' := 42) (ls' := [some (.ref 0), some (.int 2), some (.int (nI i))]) (st' := [.int (S0[i]'(by omega)), .int (4628 + nI i), .ref 3]) (M1 := memK (dI 4628 i)) 1 (fun n => iaload_step rfl rfl (l := S0) rfl (at_nI (by omega) hy)) ?_
    have eb : (4628 : Int32) + nI i = nI (4628 + i) := nI_add 4628 i
    rw [eb]
    refine Ev.step (pc' := 43) (ls' := [some (.ref 0), some (.int 2), some (.int (nI i))]) (st' := []) 1 (fun n => iastore_step rfl rfl rfl (at_nI (by omega) hz)) ?_
    rw [put_K, nI_clamp (by omega), hp]
    exact Ev.step (pc' := 18) (ls' := [some (.ref 0), some (.int 2), some (.int (nI i + 1))]) (st' := []) (M1 := memK (dI 4628 (i + 1))) 2 (fun n => rfl) h1
set_option maxRecDepth 200000 in
set_option maxHeartbeats 4000000 in
theorem image_r2 : ∃ M1, Ev none 999 247 0 [some (.ref 0), some (.int 2), none] [] memR (some (.int 1)) M1 0 0 := by
  have hend : ∃ M1, Ev none 999 247 49 [some (.ref 0), some (.int 2), some (.int (nI 2314))] [] (memK (dI 4628 2314)) (some (.int 1)) M1 0 0 := by
    apply Exists.intro
    apply Ev.step (pc' := 57) (ls' := [some (.ref 0), some (.int 2), some (.int (nI 2314))]) (st' := [.int 1]) (M1 := _) 6 (fun n => rfl)
    exact Ev.ret (fun n => rfl)
  obtain ⟨M1, hend⟩ := hend
  have h := img_loop2 hend 2314 0 (by omega)
  rw [← dI_0 (by omega), ← memR_K] at h
  refine ⟨M1, ?_⟩
  refine Ev.step (pc' := 8) (ls' := [some (.ref 0), some (.int 2), none]) (st' := [.int 2, .int 0, .int 2]) (M1 := memR) 6 (fun n => rfl) ?_
  refine Ev.call0 (ls0 := [some (.int 2), some (.int 0), some (.int 2)]) (rest := []) (id := 141) (v1 := some (.int 1)) (M1 := memR) (fun n => rfl) (isin_in (by decide) (by decide)) ?_
  exact Ev.step (pc' := 18) (ls' := [some (.ref 0), some (.int 2), some (.int (nI 0))]) (st' := []) (M1 := memR) 3 (fun n => rfl) h
set_option maxRecDepth 200000 in
theorem image_k2 : okR (goF none 600 999 123 0 [some (.ref 0), some (.int 2)] [] memP) (some (.int 1)) = true := by decide +kernel
theorem image_c2 : ∃ M1, Ev none 999 123 0 [some (.ref 0), some (.int 2)] [] memP (some (.int 1)) M1 0 0 := okR_ev image_k2
set_option maxRecDepth 200000 in
set_option maxHeartbeats 4000000 in
theorem r95_0 (x1 x2 : Int32) (g0 : x1 < 0) : ∃ M1, Ev none 999 95 0 [some (.ref 0), some (.int (x1)), some (.int (x2))] [] memP (some (.int 0)) M1 0 0 := by
  apply Exists.intro
  apply Ev.step (pc' := 2) (ls' := [some (.ref 0), some (.int (x1)), some (.int (x2))]) (st' := [.int (x1), .ref 0]) (M1 := _) 2 (fun n => rfl)
  apply Ev.call0 (ls0 := [some (.ref 0), some (.int (x1))]) (rest := []) (id := 127) (v1 := some (.int 0))  (fun n => rfl)
  · apply Ev.step (pc' := 6) (ls' := [some (.ref 0), some (.int (x1))]) (st' := [.ref 8, .int 0, .int (x1)]) (M1 := _) 4 (fun n => rfl)
    apply Ev.call0 (ls0 := [some (.ref 8)]) (rest := [.int 0, .int (x1)]) (id := 6) (v1 := some (.int 16)) (M1 := _) (fun n => rfl) ⟨6, rfl⟩
    apply Ev.step (pc' := 11) (ls' := [some (.ref 0), some (.int (x1))]) (st' := [.int 15, .int 0, .int (x1)]) (M1 := _) 2 (fun n => rfl)
    apply Ev.call0 (ls0 := [some (.int (x1)), some (.int 0), some (.int 15)]) (rest := []) (id := 126) (v1 := some (.int 0))  (fun n => rfl)
    · apply Ev.step (pc' := 2) (ls' := [some (.int (x1)), some (.int 0), some (.int 15)]) (st' := [.int 0, .int (x1)]) (M1 := _) 2 (fun n => rfl)
      apply Ev.step (pc' := if x1 < 0 then 14 else 5) (ls' := [some (.int (x1)), some (.int 0), some (.int 15)]) (st' := []) (M1 := _) 1 (fun n => rfl)
      rw [if_pos g0]
      apply Ev.step (pc' := 15) (ls' := [some (.int (x1)), some (.int 0), some (.int 15)]) (st' := [.int 0]) (M1 := _) 1 (fun n => rfl)
      exact Ev.ret (fun n => rfl)
    exact Ev.ret (fun n => rfl)
  apply Ev.step (pc' := 19) (ls' := [some (.ref 0), some (.int (x1)), some (.int (x2))]) (st' := [.int 0]) (M1 := _) 2 (fun n => rfl)
  exact Ev.ret (fun n => rfl)
set_option maxRecDepth 200000 in
set_option maxHeartbeats 4000000 in
theorem r213_1 (x1 x2 : Int32) (g0 : x1 < 0) : ∃ M1, Ev none 999 213 0 [some (.ref 0), some (.int (x1)), some (.int (x2))] [] memR (some (.int 0)) M1 0 0 := by
  apply Exists.intro
  apply Ev.step (pc' := 7) (ls' := [some (.ref 0), some (.int (x1)), some (.int (x2))]) (st' := [.int (x1), .ref 0]) (M1 := _) 5 (fun n => rfl)
  apply Ev.call0 (ls0 := [some (.ref 0), some (.int (x1))]) (rest := []) (id := 146) (v1 := some (.int 0))  (fun n => rfl)
  · apply Ev.step (pc' := 3) (ls' := [some (.ref 0), some (.int (x1))]) (st' := [.ref 0, .int 0, .int (x1)]) (M1 := _) 3 (fun n => rfl)
    apply Ev.call0 (ls0 := [some (.ref 0)]) (rest := [.int 0, .int (x1)]) (id := 145) (v1 := some (.int 16)) (M1 := _) (fun n => rfl) ⟨10, rfl⟩
    apply Ev.step (pc' := 8) (ls' := [some (.ref 0), some (.int (x1))]) (st' := [.int 15, .int 0, .int (x1)]) (M1 := _) 2 (fun n => rfl)
    apply Ev.call0 (ls0 := [some (.int (x1)), some (.int 0), some (.int 15)]) (rest := []) (id := 141) (v1 := some (.int 0))  (fun n => rfl)
    · apply Ev.step (pc' := 2) (ls' := [some (.int (x1)), some (.int 0), some (.int 15)]) (st' := [.int 0, .int (x1)]) (M1 := _) 2 (fun n => rfl)
      apply Ev.step (pc' := if x1 < 0 then 14 else 5) (ls' := [some (.int (x1)), some (.int 0), some (.int 15)]) (st' := []) (M1 := _) 1 (fun n => rfl)
      rw [if_pos g0]
      apply Ev.step (pc' := 15) (ls' := [some (.int (x1)), some (.int 0), some (.int 15)]) (st' := [.int 0]) (M1 := _) 1 (fun n => rfl)
      exact Ev.ret (fun n => rfl)
    exact Ev.ret (fun n => rfl)
  apply Ev.step (pc' := 51) (ls' := [some (.ref 0), some (.int (x1)), some (.int (x2))]) (st' := [.int 0]) (M1 := _) 2 (fun n => rfl)
  exact Ev.ret (fun n => rfl)
set_option maxRecDepth 200000 in
set_option maxHeartbeats 4000000 in
theorem r95_2 (x1 x2 : Int32) (g0 : ¬ x1 < 0) (g1 : 15 < x1) : ∃ M1, Ev none 999 95 0 [some (.ref 0), some (.int (x1)), some (.int (x2))] [] memP (some (.int 0)) M1 0 0 := by
  apply Exists.intro
  apply Ev.step (pc' := 2) (ls' := [some (.ref 0), some (.int (x1)), some (.int (x2))]) (st' := [.int (x1), .ref 0]) (M1 := _) 2 (fun n => rfl)
  apply Ev.call0 (ls0 := [some (.ref 0), some (.int (x1))]) (rest := []) (id := 127) (v1 := some (.int 0))  (fun n => rfl)
  · apply Ev.step (pc' := 6) (ls' := [some (.ref 0), some (.int (x1))]) (st' := [.ref 8, .int 0, .int (x1)]) (M1 := _) 4 (fun n => rfl)
    apply Ev.call0 (ls0 := [some (.ref 8)]) (rest := [.int 0, .int (x1)]) (id := 6) (v1 := some (.int 16)) (M1 := _) (fun n => rfl) ⟨6, rfl⟩
    apply Ev.step (pc' := 11) (ls' := [some (.ref 0), some (.int (x1))]) (st' := [.int 15, .int 0, .int (x1)]) (M1 := _) 2 (fun n => rfl)
    apply Ev.call0 (ls0 := [some (.int (x1)), some (.int 0), some (.int 15)]) (rest := []) (id := 126) (v1 := some (.int 0))  (fun n => rfl)
    · apply Ev.step (pc' := 2) (ls' := [some (.int (x1)), some (.int 0), some (.int 15)]) (st' := [.int 0, .int (x1)]) (M1 := _) 2 (fun n => rfl)
      apply Ev.step (pc' := if x1 < 0 then 14 else 5) (ls' := [some (.int (x1)), some (.int 0), some (.int 15)]) (st' := []) (M1 := _) 1 (fun n => rfl)
      rw [if_neg g0]
      apply Ev.step (pc' := 7) (ls' := [some (.int (x1)), some (.int 0), some (.int 15)]) (st' := [.int 15, .int (x1)]) (M1 := _) 2 (fun n => rfl)
      apply Ev.step (pc' := if 15 < x1 then 14 else 10) (ls' := [some (.int (x1)), some (.int 0), some (.int 15)]) (st' := []) (M1 := _) 1 (fun n => rfl)
      rw [if_pos g1]
      apply Ev.step (pc' := 15) (ls' := [some (.int (x1)), some (.int 0), some (.int 15)]) (st' := [.int 0]) (M1 := _) 1 (fun n => rfl)
      exact Ev.ret (fun n => rfl)
    exact Ev.ret (fun n => rfl)
  apply Ev.step (pc' := 19) (ls' := [some (.ref 0), some (.int (x1)), some (.int (x2))]) (st' := [.int 0]) (M1 := _) 2 (fun n => rfl)
  exact Ev.ret (fun n => rfl)
set_option maxRecDepth 200000 in
set_option maxHeartbeats 4000000 in
theorem r213_3 (x1 x2 : Int32) (g0 : ¬ x1 < 0) (g1 : 15 < x1) : ∃ M1, Ev none 999 213 0 [some (.ref 0), some (.int (x1)), some (.int (x2))] [] memR (some (.int 0)) M1 0 0 := by
  apply Exists.intro
  apply Ev.step (pc' := 7) (ls' := [some (.ref 0), some (.int (x1)), some (.int (x2))]) (st' := [.int (x1), .ref 0]) (M1 := _) 5 (fun n => rfl)
  apply Ev.call0 (ls0 := [some (.ref 0), some (.int (x1))]) (rest := []) (id := 146) (v1 := some (.int 0))  (fun n => rfl)
  · apply Ev.step (pc' := 3) (ls' := [some (.ref 0), some (.int (x1))]) (st' := [.ref 0, .int 0, .int (x1)]) (M1 := _) 3 (fun n => rfl)
    apply Ev.call0 (ls0 := [some (.ref 0)]) (rest := [.int 0, .int (x1)]) (id := 145) (v1 := some (.int 16)) (M1 := _) (fun n => rfl) ⟨10, rfl⟩
    apply Ev.step (pc' := 8) (ls' := [some (.ref 0), some (.int (x1))]) (st' := [.int 15, .int 0, .int (x1)]) (M1 := _) 2 (fun n => rfl)
    apply Ev.call0 (ls0 := [some (.int (x1)), some (.int 0), some (.int 15)]) (rest := []) (id := 141) (v1 := some (.int 0))  (fun n => rfl)
    · apply Ev.step (pc' := 2) (ls' := [some (.int (x1)), some (.int 0), some (.int 15)]) (st' := [.int 0, .int (x1)]) (M1 := _) 2 (fun n => rfl)
      apply Ev.step (pc' := if x1 < 0 then 14 else 5) (ls' := [some (.int (x1)), some (.int 0), some (.int 15)]) (st' := []) (M1 := _) 1 (fun n => rfl)
      rw [if_neg g0]
      apply Ev.step (pc' := 7) (ls' := [some (.int (x1)), some (.int 0), some (.int 15)]) (st' := [.int 15, .int (x1)]) (M1 := _) 2 (fun n => rfl)
      apply Ev.step (pc' := if 15 < x1 then 14 else 10) (ls' := [some (.int (x1)), some (.int 0), some (.int 15)]) (st' := []) (M1 := _) 1 (fun n => rfl)
      rw [if_pos g1]
      apply Ev.step (pc' := 15) (ls' := [some (.int (x1)), some (.int 0), some (.int 15)]) (st' := [.int 0]) (M1 := _) 1 (fun n => rfl)
      exact Ev.ret (fun n => rfl)
    exact Ev.ret (fun n => rfl)
  apply Ev.step (pc' := 51) (ls' := [some (.ref 0), some (.int (x1)), some (.int (x2))]) (st' := [.int 0]) (M1 := _) 2 (fun n => rfl)
  exact Ev.ret (fun n => rfl)
set_option maxRecDepth 200000 in
set_option maxHeartbeats 4000000 in
theorem r95_4 (x1 x2 : Int32) (g0 : ¬ x1 < 0) (g1 : ¬ 15 < x1) (g2 : x2 < 0) : ∃ M1, Ev none 999 95 0 [some (.ref 0), some (.int (x1)), some (.int (x2))] [] memP (some (.int 0)) M1 0 0 := by
  apply Exists.intro
  apply Ev.step (pc' := 2) (ls' := [some (.ref 0), some (.int (x1)), some (.int (x2))]) (st' := [.int (x1), .ref 0]) (M1 := _) 2 (fun n => rfl)
  apply Ev.call0 (ls0 := [some (.ref 0), some (.int (x1))]) (rest := []) (id := 127) (v1 := some (.int 1))  (fun n => rfl)
  · apply Ev.step (pc' := 6) (ls' := [some (.ref 0), some (.int (x1))]) (st' := [.ref 8, .int 0, .int (x1)]) (M1 := _) 4 (fun n => rfl)
    apply Ev.call0 (ls0 := [some (.ref 8)]) (rest := [.int 0, .int (x1)]) (id := 6) (v1 := some (.int 16)) (M1 := _) (fun n => rfl) ⟨6, rfl⟩
    apply Ev.step (pc' := 11) (ls' := [some (.ref 0), some (.int (x1))]) (st' := [.int 15, .int 0, .int (x1)]) (M1 := _) 2 (fun n => rfl)
    apply Ev.call0 (ls0 := [some (.int (x1)), some (.int 0), some (.int 15)]) (rest := []) (id := 126) (v1 := some (.int 1))  (fun n => rfl)
    · apply Ev.step (pc' := 2) (ls' := [some (.int (x1)), some (.int 0), some (.int 15)]) (st' := [.int 0, .int (x1)]) (M1 := _) 2 (fun n => rfl)
      apply Ev.step (pc' := if x1 < 0 then 14 else 5) (ls' := [some (.int (x1)), some (.int 0), some (.int 15)]) (st' := []) (M1 := _) 1 (fun n => rfl)
      rw [if_neg g0]
      apply Ev.step (pc' := 7) (ls' := [some (.int (x1)), some (.int 0), some (.int 15)]) (st' := [.int 15, .int (x1)]) (M1 := _) 2 (fun n => rfl)
      apply Ev.step (pc' := if 15 < x1 then 14 else 10) (ls' := [some (.int (x1)), some (.int 0), some (.int 15)]) (st' := []) (M1 := _) 1 (fun n => rfl)
      rw [if_neg g1]
      apply Ev.step (pc' := 15) (ls' := [some (.int (x1)), some (.int 0), some (.int 15)]) (st' := [.int 1]) (M1 := _) 2 (fun n => rfl)
      exact Ev.ret (fun n => rfl)
    exact Ev.ret (fun n => rfl)
  apply Ev.step (pc' := 12) (ls' := [some (.ref 0), some (.int (x1)), some (.int (x2))]) (st' := [.int 6, .int 0, .int (x2)]) (M1 := _) 4 (fun n => rfl)
  apply Ev.call0 (ls0 := [some (.int (x2)), some (.int 0), some (.int 6)]) (rest := []) (id := 126) (v1 := some (.int 0))  (fun n => rfl)
  · apply Ev.step (pc' := 2) (ls' := [some (.int (x2)), some (.int 0), some (.int 6)]) (st' := [.int 0, .int (x2)]) (M1 := _) 2 (fun n => rfl)
    apply Ev.step (pc' := if x2 < 0 then 14 else 5) (ls' := [some (.int (x2)), some (.int 0), some (.int 6)]) (st' := []) (M1 := _) 1 (fun n => rfl)
    rw [if_pos g2]
    apply Ev.step (pc' := 15) (ls' := [some (.int (x2)), some (.int 0), some (.int 6)]) (st' := [.int 0]) (M1 := _) 1 (fun n => rfl)
    exact Ev.ret (fun n => rfl)
  apply Ev.step (pc' := 19) (ls' := [some (.ref 0), some (.int (x1)), some (.int (x2))]) (st' := [.int 0]) (M1 := _) 2 (fun n => rfl)
  exact Ev.ret (fun n => rfl)
set_option maxRecDepth 200000 in
set_option maxHeartbeats 4000000 in
theorem r213_5 (x1 x2 : Int32) (g0 : ¬ x1 < 0) (g1 : ¬ 15 < x1) (g2 : x2 < 0) : ∃ M1, Ev none 999 213 0 [some (.ref 0), some (.int (x1)), some (.int (x2))] [] memR (some (.int 0)) M1 0 0 := by
  apply Exists.intro
  apply Ev.step (pc' := 7) (ls' := [some (.ref 0), some (.int (x1)), some (.int (x2))]) (st' := [.int (x1), .ref 0]) (M1 := _) 5 (fun n => rfl)
  apply Ev.call0 (ls0 := [some (.ref 0), some (.int (x1))]) (rest := []) (id := 146) (v1 := some (.int 1))  (fun n => rfl)
  · apply Ev.step (pc' := 3) (ls' := [some (.ref 0), some (.int (x1))]) (st' := [.ref 0, .int 0, .int (x1)]) (M1 := _) 3 (fun n => rfl)
    apply Ev.call0 (ls0 := [some (.ref 0)]) (rest := [.int 0, .int (x1)]) (id := 145) (v1 := some (.int 16)) (M1 := _) (fun n => rfl) ⟨10, rfl⟩
    apply Ev.step (pc' := 8) (ls' := [some (.ref 0), some (.int (x1))]) (st' := [.int 15, .int 0, .int (x1)]) (M1 := _) 2 (fun n => rfl)
    apply Ev.call0 (ls0 := [some (.int (x1)), some (.int 0), some (.int 15)]) (rest := []) (id := 141) (v1 := some (.int 1))  (fun n => rfl)
    · apply Ev.step (pc' := 2) (ls' := [some (.int (x1)), some (.int 0), some (.int 15)]) (st' := [.int 0, .int (x1)]) (M1 := _) 2 (fun n => rfl)
      apply Ev.step (pc' := if x1 < 0 then 14 else 5) (ls' := [some (.int (x1)), some (.int 0), some (.int 15)]) (st' := []) (M1 := _) 1 (fun n => rfl)
      rw [if_neg g0]
      apply Ev.step (pc' := 7) (ls' := [some (.int (x1)), some (.int 0), some (.int 15)]) (st' := [.int 15, .int (x1)]) (M1 := _) 2 (fun n => rfl)
      apply Ev.step (pc' := if 15 < x1 then 14 else 10) (ls' := [some (.int (x1)), some (.int 0), some (.int 15)]) (st' := []) (M1 := _) 1 (fun n => rfl)
      rw [if_neg g1]
      apply Ev.step (pc' := 15) (ls' := [some (.int (x1)), some (.int 0), some (.int 15)]) (st' := [.int 1]) (M1 := _) 2 (fun n => rfl)
      exact Ev.ret (fun n => rfl)
    exact Ev.ret (fun n => rfl)
  apply Ev.step (pc' := 17) (ls' := [some (.ref 0), some (.int (x1)), some (.int (x2))]) (st' := [.int 6, .int 0, .int (x2)]) (M1 := _) 4 (fun n => rfl)
  apply Ev.call0 (ls0 := [some (.int (x2)), some (.int 0), some (.int 6)]) (rest := []) (id := 141) (v1 := some (.int 0))  (fun n => rfl)
  · apply Ev.step (pc' := 2) (ls' := [some (.int (x2)), some (.int 0), some (.int 6)]) (st' := [.int 0, .int (x2)]) (M1 := _) 2 (fun n => rfl)
    apply Ev.step (pc' := if x2 < 0 then 14 else 5) (ls' := [some (.int (x2)), some (.int 0), some (.int 6)]) (st' := []) (M1 := _) 1 (fun n => rfl)
    rw [if_pos g2]
    apply Ev.step (pc' := 15) (ls' := [some (.int (x2)), some (.int 0), some (.int 6)]) (st' := [.int 0]) (M1 := _) 1 (fun n => rfl)
    exact Ev.ret (fun n => rfl)
  apply Ev.step (pc' := 51) (ls' := [some (.ref 0), some (.int (x1)), some (.int (x2))]) (st' := [.int 0]) (M1 := _) 2 (fun n => rfl)
  exact Ev.ret (fun n => rfl)
set_option maxRecDepth 200000 in
set_option maxHeartbeats 4000000 in
theorem r95_6 (x1 x2 : Int32) (g0 : ¬ x1 < 0) (g1 : ¬ 15 < x1) (g2 : ¬ x2 < 0) (g3 : 6 < x2) : ∃ M1, Ev none 999 95 0 [some (.ref 0), some (.int (x1)), some (.int (x2))] [] memP (some (.int 0)) M1 0 0 := by
  apply Exists.intro
  apply Ev.step (pc' := 2) (ls' := [some (.ref 0), some (.int (x1)), some (.int (x2))]) (st' := [.int (x1), .ref 0]) (M1 := _) 2 (fun n => rfl)
  apply Ev.call0 (ls0 := [some (.ref 0), some (.int (x1))]) (rest := []) (id := 127) (v1 := some (.int 1))  (fun n => rfl)
  · apply Ev.step (pc' := 6) (ls' := [some (.ref 0), some (.int (x1))]) (st' := [.ref 8, .int 0, .int (x1)]) (M1 := _) 4 (fun n => rfl)
    apply Ev.call0 (ls0 := [some (.ref 8)]) (rest := [.int 0, .int (x1)]) (id := 6) (v1 := some (.int 16)) (M1 := _) (fun n => rfl) ⟨6, rfl⟩
    apply Ev.step (pc' := 11) (ls' := [some (.ref 0), some (.int (x1))]) (st' := [.int 15, .int 0, .int (x1)]) (M1 := _) 2 (fun n => rfl)
    apply Ev.call0 (ls0 := [some (.int (x1)), some (.int 0), some (.int 15)]) (rest := []) (id := 126) (v1 := some (.int 1))  (fun n => rfl)
    · apply Ev.step (pc' := 2) (ls' := [some (.int (x1)), some (.int 0), some (.int 15)]) (st' := [.int 0, .int (x1)]) (M1 := _) 2 (fun n => rfl)
      apply Ev.step (pc' := if x1 < 0 then 14 else 5) (ls' := [some (.int (x1)), some (.int 0), some (.int 15)]) (st' := []) (M1 := _) 1 (fun n => rfl)
      rw [if_neg g0]
      apply Ev.step (pc' := 7) (ls' := [some (.int (x1)), some (.int 0), some (.int 15)]) (st' := [.int 15, .int (x1)]) (M1 := _) 2 (fun n => rfl)
      apply Ev.step (pc' := if 15 < x1 then 14 else 10) (ls' := [some (.int (x1)), some (.int 0), some (.int 15)]) (st' := []) (M1 := _) 1 (fun n => rfl)
      rw [if_neg g1]
      apply Ev.step (pc' := 15) (ls' := [some (.int (x1)), some (.int 0), some (.int 15)]) (st' := [.int 1]) (M1 := _) 2 (fun n => rfl)
      exact Ev.ret (fun n => rfl)
    exact Ev.ret (fun n => rfl)
  apply Ev.step (pc' := 12) (ls' := [some (.ref 0), some (.int (x1)), some (.int (x2))]) (st' := [.int 6, .int 0, .int (x2)]) (M1 := _) 4 (fun n => rfl)
  apply Ev.call0 (ls0 := [some (.int (x2)), some (.int 0), some (.int 6)]) (rest := []) (id := 126) (v1 := some (.int 0))  (fun n => rfl)
  · apply Ev.step (pc' := 2) (ls' := [some (.int (x2)), some (.int 0), some (.int 6)]) (st' := [.int 0, .int (x2)]) (M1 := _) 2 (fun n => rfl)
    apply Ev.step (pc' := if x2 < 0 then 14 else 5) (ls' := [some (.int (x2)), some (.int 0), some (.int 6)]) (st' := []) (M1 := _) 1 (fun n => rfl)
    rw [if_neg g2]
    apply Ev.step (pc' := 7) (ls' := [some (.int (x2)), some (.int 0), some (.int 6)]) (st' := [.int 6, .int (x2)]) (M1 := _) 2 (fun n => rfl)
    apply Ev.step (pc' := if 6 < x2 then 14 else 10) (ls' := [some (.int (x2)), some (.int 0), some (.int 6)]) (st' := []) (M1 := _) 1 (fun n => rfl)
    rw [if_pos g3]
    apply Ev.step (pc' := 15) (ls' := [some (.int (x2)), some (.int 0), some (.int 6)]) (st' := [.int 0]) (M1 := _) 1 (fun n => rfl)
    exact Ev.ret (fun n => rfl)
  apply Ev.step (pc' := 19) (ls' := [some (.ref 0), some (.int (x1)), some (.int (x2))]) (st' := [.int 0]) (M1 := _) 2 (fun n => rfl)
  exact Ev.ret (fun n => rfl)
set_option maxRecDepth 200000 in
set_option maxHeartbeats 4000000 in
theorem r213_7 (x1 x2 : Int32) (g0 : ¬ x1 < 0) (g1 : ¬ 15 < x1) (g2 : ¬ x2 < 0) (g3 : 6 < x2) : ∃ M1, Ev none 999 213 0 [some (.ref 0), some (.int (x1)), some (.int (x2))] [] memR (some (.int 0)) M1 0 0 := by
  apply Exists.intro
  apply Ev.step (pc' := 7) (ls' := [some (.ref 0), some (.int (x1)), some (.int (x2))]) (st' := [.int (x1), .ref 0]) (M1 := _) 5 (fun n => rfl)
  apply Ev.call0 (ls0 := [some (.ref 0), some (.int (x1))]) (rest := []) (id := 146) (v1 := some (.int 1))  (fun n => rfl)
  · apply Ev.step (pc' := 3) (ls' := [some (.ref 0), some (.int (x1))]) (st' := [.ref 0, .int 0, .int (x1)]) (M1 := _) 3 (fun n => rfl)
    apply Ev.call0 (ls0 := [some (.ref 0)]) (rest := [.int 0, .int (x1)]) (id := 145) (v1 := some (.int 16)) (M1 := _) (fun n => rfl) ⟨10, rfl⟩
    apply Ev.step (pc' := 8) (ls' := [some (.ref 0), some (.int (x1))]) (st' := [.int 15, .int 0, .int (x1)]) (M1 := _) 2 (fun n => rfl)
    apply Ev.call0 (ls0 := [some (.int (x1)), some (.int 0), some (.int 15)]) (rest := []) (id := 141) (v1 := some (.int 1))  (fun n => rfl)
    · apply Ev.step (pc' := 2) (ls' := [some (.int (x1)), some (.int 0), some (.int 15)]) (st' := [.int 0, .int (x1)]) (M1 := _) 2 (fun n => rfl)
      apply Ev.step (pc' := if x1 < 0 then 14 else 5) (ls' := [some (.int (x1)), some (.int 0), some (.int 15)]) (st' := []) (M1 := _) 1 (fun n => rfl)
      rw [if_neg g0]
      apply Ev.step (pc' := 7) (ls' := [some (.int (x1)), some (.int 0), some (.int 15)]) (st' := [.int 15, .int (x1)]) (M1 := _) 2 (fun n => rfl)
      apply Ev.step (pc' := if 15 < x1 then 14 else 10) (ls' := [some (.int (x1)), some (.int 0), some (.int 15)]) (st' := []) (M1 := _) 1 (fun n => rfl)
      rw [if_neg g1]
      apply Ev.step (pc' := 15) (ls' := [some (.int (x1)), some (.int 0), some (.int 15)]) (st' := [.int 1]) (M1 := _) 2 (fun n => rfl)
      exact Ev.ret (fun n => rfl)
    exact Ev.ret (fun n => rfl)
  apply Ev.step (pc' := 17) (ls' := [some (.ref 0), some (.int (x1)), some (.int (x2))]) (st' := [.int 6, .int 0, .int (x2)]) (M1 := _) 4 (fun n => rfl)
  apply Ev.call0 (ls0 := [some (.int (x2)), some (.int 0), some (.int 6)]) (rest := []) (id := 141) (v1 := some (.int 0))  (fun n => rfl)
  · apply Ev.step (pc' := 2) (ls' := [some (.int (x2)), some (.int 0), some (.int 6)]) (st' := [.int 0, .int (x2)]) (M1 := _) 2 (fun n => rfl)
    apply Ev.step (pc' := if x2 < 0 then 14 else 5) (ls' := [some (.int (x2)), some (.int 0), some (.int 6)]) (st' := []) (M1 := _) 1 (fun n => rfl)
    rw [if_neg g2]
    apply Ev.step (pc' := 7) (ls' := [some (.int (x2)), some (.int 0), some (.int 6)]) (st' := [.int 6, .int (x2)]) (M1 := _) 2 (fun n => rfl)
    apply Ev.step (pc' := if 6 < x2 then 14 else 10) (ls' := [some (.int (x2)), some (.int 0), some (.int 6)]) (st' := []) (M1 := _) 1 (fun n => rfl)
    rw [if_pos g3]
    apply Ev.step (pc' := 15) (ls' := [some (.int (x2)), some (.int 0), some (.int 6)]) (st' := [.int 0]) (M1 := _) 1 (fun n => rfl)
    exact Ev.ret (fun n => rfl)
  apply Ev.step (pc' := 51) (ls' := [some (.ref 0), some (.int (x1)), some (.int (x2))]) (st' := [.int 0]) (M1 := _) 2 (fun n => rfl)
  exact Ev.ret (fun n => rfl)
set_option maxRecDepth 200000 in
set_option maxHeartbeats 4000000 in
theorem ok_13 {x0 x1 x2 x3 x4 x5 : Int32} (hj : x0 &&& 63 = nI 13) : Okk x0 x1 x2 x3 x4 x5 := by
  by_cases h1 : x1 < 0
  · skip
    obtain ⟨M1, A⟩ := (r95_0 x1 x2 h1)
    obtain ⟨M2, B⟩ := (r213_1 x1 x2 h1)
    exact lc_13 hj A B
  · skip
    by_cases h2 : 15 < x1
    · skip
      obtain ⟨M1, A⟩ := (r95_2 x1 x2 h1 h2)
      obtain ⟨M2, B⟩ := (r213_3 x1 x2 h1 h2)
      exact lc_13 hj A B
    · skip
      by_cases h3 : x2 < 0
      · skip
        obtain ⟨M1, A⟩ := (r95_4 x1 x2 h1 h2 h3)
        obtain ⟨M2, B⟩ := (r213_5 x1 x2 h1 h2 h3)
        exact lc_13 hj A B
      · skip
        by_cases h4 : 6 < x2
        · skip
          obtain ⟨M1, A⟩ := (r95_6 x1 x2 h1 h2 h3 h4)
          obtain ⟨M2, B⟩ := (r213_7 x1 x2 h1 h2 h3 h4)
          exact lc_13 hj A B
        · skip
          obtain ⟨c, a1, a2, a3, rfl⟩ := nat_of h1 h2 (by decide)
          obtain ⟨k, b1, b2, b3, rfl⟩ := nat_of h3 h4 (by decide)
          have c1 : (15 : Int32).toInt = 15 := by decide
          have c2 : (6 : Int32).toInt = 6 := by decide
          obtain ⟨M1, A⟩ := lay_c (c := c) (k := k) (by omega) (by omega)
          obtain ⟨M2, B⟩ := lay_r (c := c) (k := k) (by omega) (by omega)
          exact lc_13 hj A B
set_option maxRecDepth 200000 in
set_option maxHeartbeats 4000000 in
theorem r123_0 (x1 : Int32) (g0 : x1 < 0) : ∃ M1, Ev none 999 123 0 [some (.ref 0), some (.int (x1))] [] memP (some (.int 0)) M1 0 0 := by
  apply Exists.intro
  apply Ev.step (pc' := 3) (ls' := [some (.ref 0), some (.int (x1))]) (st' := [.int 2, .int 0, .int (x1)]) (M1 := _) 3 (fun n => rfl)
  apply Ev.call0 (ls0 := [some (.int (x1)), some (.int 0), some (.int 2)]) (rest := []) (id := 126) (v1 := some (.int 0))  (fun n => rfl)
  · apply Ev.step (pc' := 2) (ls' := [some (.int (x1)), some (.int 0), some (.int 2)]) (st' := [.int 0, .int (x1)]) (M1 := _) 2 (fun n => rfl)
    apply Ev.step (pc' := if x1 < 0 then 14 else 5) (ls' := [some (.int (x1)), some (.int 0), some (.int 2)]) (st' := []) (M1 := _) 1 (fun n => rfl)
    rw [if_pos g0]
    apply Ev.step (pc' := 15) (ls' := [some (.int (x1)), some (.int 0), some (.int 2)]) (st' := [.int 0]) (M1 := _) 1 (fun n => rfl)
    exact Ev.ret (fun n => rfl)
  apply Ev.step (pc' := 10) (ls' := [some (.ref 0), some (.int (x1))]) (st' := [.int 0]) (M1 := _) 2 (fun n => rfl)
  exact Ev.ret (fun n => rfl)
set_option maxRecDepth 200000 in
set_option maxHeartbeats 4000000 in
theorem r247_1 (x1 : Int32) (g0 : x1 < 0) : ∃ M1, Ev none 999 247 0 [some (.ref 0), some (.int (x1)), none] [] memR (some (.int 0)) M1 0 0 := by
  apply Exists.intro
  apply Ev.step (pc' := 8) (ls' := [some (.ref 0), some (.int (x1)), none]) (st' := [.int 2, .int 0, .int (x1)]) (M1 := _) 6 (fun n => rfl)
  apply Ev.call0 (ls0 := [some (.int (x1)), some (.int 0), some (.int 2)]) (rest := []) (id := 141) (v1 := some (.int 0))  (fun n => rfl)
  · apply Ev.step (pc' := 2) (ls' := [some (.int (x1)), some (.int 0), some (.int 2)]) (st' := [.int 0, .int (x1)]) (M1 := _) 2 (fun n => rfl)
    apply Ev.step (pc' := if x1 < 0 then 14 else 5) (ls' := [some (.int (x1)), some (.int 0), some (.int 2)]) (st' := []) (M1 := _) 1 (fun n => rfl)
    rw [if_pos g0]
    apply Ev.step (pc' := 15) (ls' := [some (.int (x1)), some (.int 0), some (.int 2)]) (st' := [.int 0]) (M1 := _) 1 (fun n => rfl)
    exact Ev.ret (fun n => rfl)
  apply Ev.step (pc' := 15) (ls' := [some (.ref 0), some (.int (x1)), none]) (st' := [.int 0]) (M1 := _) 2 (fun n => rfl)
  exact Ev.ret (fun n => rfl)
set_option maxRecDepth 200000 in
set_option maxHeartbeats 4000000 in
theorem r123_2 (x1 : Int32) (g0 : ¬ x1 < 0) (g1 : 2 < x1) : ∃ M1, Ev none 999 123 0 [some (.ref 0), some (.int (x1))] [] memP (some (.int 0)) M1 0 0 := by
  apply Exists.intro
  apply Ev.step (pc' := 3) (ls' := [some (.ref 0), some (.int (x1))]) (st' := [.int 2, .int 0, .int (x1)]) (M1 := _) 3 (fun n => rfl)
  apply Ev.call0 (ls0 := [some (.int (x1)), some (.int 0), some (.int 2)]) (rest := []) (id := 126) (v1 := some (.int 0))  (fun n => rfl)
  · apply Ev.step (pc' := 2) (ls' := [some (.int (x1)), some (.int 0), some (.int 2)]) (st' := [.int 0, .int (x1)]) (M1 := _) 2 (fun n => rfl)
    apply Ev.step (pc' := if x1 < 0 then 14 else 5) (ls' := [some (.int (x1)), some (.int 0), some (.int 2)]) (st' := []) (M1 := _) 1 (fun n => rfl)
    rw [if_neg g0]
    apply Ev.step (pc' := 7) (ls' := [some (.int (x1)), some (.int 0), some (.int 2)]) (st' := [.int 2, .int (x1)]) (M1 := _) 2 (fun n => rfl)
    apply Ev.step (pc' := if 2 < x1 then 14 else 10) (ls' := [some (.int (x1)), some (.int 0), some (.int 2)]) (st' := []) (M1 := _) 1 (fun n => rfl)
    rw [if_pos g1]
    apply Ev.step (pc' := 15) (ls' := [some (.int (x1)), some (.int 0), some (.int 2)]) (st' := [.int 0]) (M1 := _) 1 (fun n => rfl)
    exact Ev.ret (fun n => rfl)
  apply Ev.step (pc' := 10) (ls' := [some (.ref 0), some (.int (x1))]) (st' := [.int 0]) (M1 := _) 2 (fun n => rfl)
  exact Ev.ret (fun n => rfl)
set_option maxRecDepth 200000 in
set_option maxHeartbeats 4000000 in
theorem r247_3 (x1 : Int32) (g0 : ¬ x1 < 0) (g1 : 2 < x1) : ∃ M1, Ev none 999 247 0 [some (.ref 0), some (.int (x1)), none] [] memR (some (.int 0)) M1 0 0 := by
  apply Exists.intro
  apply Ev.step (pc' := 8) (ls' := [some (.ref 0), some (.int (x1)), none]) (st' := [.int 2, .int 0, .int (x1)]) (M1 := _) 6 (fun n => rfl)
  apply Ev.call0 (ls0 := [some (.int (x1)), some (.int 0), some (.int 2)]) (rest := []) (id := 141) (v1 := some (.int 0))  (fun n => rfl)
  · apply Ev.step (pc' := 2) (ls' := [some (.int (x1)), some (.int 0), some (.int 2)]) (st' := [.int 0, .int (x1)]) (M1 := _) 2 (fun n => rfl)
    apply Ev.step (pc' := if x1 < 0 then 14 else 5) (ls' := [some (.int (x1)), some (.int 0), some (.int 2)]) (st' := []) (M1 := _) 1 (fun n => rfl)
    rw [if_neg g0]
    apply Ev.step (pc' := 7) (ls' := [some (.int (x1)), some (.int 0), some (.int 2)]) (st' := [.int 2, .int (x1)]) (M1 := _) 2 (fun n => rfl)
    apply Ev.step (pc' := if 2 < x1 then 14 else 10) (ls' := [some (.int (x1)), some (.int 0), some (.int 2)]) (st' := []) (M1 := _) 1 (fun n => rfl)
    rw [if_pos g1]
    apply Ev.step (pc' := 15) (ls' := [some (.int (x1)), some (.int 0), some (.int 2)]) (st' := [.int 0]) (M1 := _) 1 (fun n => rfl)
    exact Ev.ret (fun n => rfl)
  apply Ev.step (pc' := 15) (ls' := [some (.ref 0), some (.int (x1)), none]) (st' := [.int 0]) (M1 := _) 2 (fun n => rfl)
  exact Ev.ret (fun n => rfl)
set_option maxRecDepth 200000 in
set_option maxHeartbeats 4000000 in
theorem ok_32 {x0 x1 x2 x3 x4 x5 : Int32} (hj : x0 &&& 63 = nI 32) : Okk x0 x1 x2 x3 x4 x5 := by
  by_cases h1 : x1 < 0
  · skip
    obtain ⟨M1, A⟩ := (r123_0 x1 h1)
    obtain ⟨M2, B⟩ := (r247_1 x1 h1)
    exact lc_32 hj A B
  · skip
    by_cases h2 : 2 < x1
    · skip
      obtain ⟨M1, A⟩ := (r123_2 x1 h1 h2)
      obtain ⟨M2, B⟩ := (r247_3 x1 h1 h2)
      exact lc_32 hj A B
    · skip
      rcases pick_0_2 h1 h2 with rfl | rfl | rfl
      · obtain ⟨M1, A⟩ := image_c0
        obtain ⟨M2, B⟩ := image_r0
        exact lc_32 hj A B
      · obtain ⟨M1, A⟩ := image_c1
        obtain ⟨M2, B⟩ := image_r1
        exact lc_32 hj A B
      · obtain ⟨M1, A⟩ := image_c2
        obtain ⟨M2, B⟩ := image_r2
        exact lc_32 hj A B
