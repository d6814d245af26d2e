/-! PURE: the law up to its loop -/
theorem eqM {a b : Mem} (h : eqL eqE a b = true) : a = b := eqL_eq eqE_eq _ _ h
set_option maxRecDepth 200000 in
theorem memP_k : eqL eqE (gPut mB9 339 (.inl (4, .inr (.inr ([some 345, some 441, some 537]))))) memP = true := by decide +kernel
theorem ev_P1 : Ev none 999 79 0 [some (.ref 0), none] [] [.inr (10, gDef 10)] none memP 632 43567 := by
  have h := ev_P
  rw [eqM memP_k] at h
  exact h
/-- the memory at the head of the law's loop: the park, the reference, the place for an answer -/
noncomputable def mem0 : Mem := memP ++ (memM ++ [.inl (2, .inr (.inl [0]))])
set_option maxRecDepth 200000 in
theorem mem0_k : eqL eqE ((memP ++ memM) ++ [gZero 2 1]) mem0 = true := by decide +kernel
set_option maxRecDepth 200000 in
set_option maxHeartbeats 4000000 in
theorem law_head (sc : List Int32) {v : Option Value} {M' : Mem} {c s : Nat} (h : Ev (some sc) 1000 250 23 [some (.retAddr 0), some (.ref 0), some (.ref 633), some (.ref 663), some (.int 0), none, none] [] mem0 v M' c s) : Ev (some sc) 1000 250 0 [some (.retAddr 0), none, none, none, none, none, none] [] [] v M' (664 + c) (80631 + s) := by
  have h1 : Ev (some sc) 1000 250 23 [some (.retAddr 0), some (.ref 0), some (.ref 633), some (.ref 663), some (.int 0), none, none] [] ((memP ++ memM) ++ [gZero 2 1]) v M' c s := by
    rw [eqM mem0_k]
    exact h
  refine Ev.cast (c := 1 + (632 + (1 + (29 + (1 + c))))) (s := 16 + (43567 + (63 + (36984 + (1 + s))))) ?_ (by omega) (by omega)
  refine Ev.add (pc' := 4) (ls' := [some (.retAddr 0), none, none, none, none, none, none]) (st' := [.ref 0, .ref 0]) (M1 := [.inr (10, gDef 10)]) (c1 := 1) (s1 := 16) 2 (fun n => rfl) ?_
  refine Ev.call (rest := [.ref 0]) (M1 := memP) (id := 79) (fun n => rfl) (ev_P1.any _) ?_
  refine Ev.add (pc' := 12) (ls' := [some (.retAddr 0), some (.ref 0), none, none, none, none, none]) (st' := [.ref 633, .ref 633]) (M1 := memP ++ [.inr (11, gDef 11)]) (c1 := 1) (s1 := 63) 3 (fun n => rfl) ?_
  refine Ev.call (rest := [.ref 633]) (M1 := memP ++ memM) (id := 143) (fun n => rfl) (Ev.of (eqR_eq ctorM) _) ?_
  refine Ev.add (pc' := 19) (ls' := [some (.retAddr 0), some (.ref 0), some (.ref 633), none, none, none, none]) (st' := [.ref 663]) (M1 := (memP ++ memM) ++ [gZero 2 1]) (c1 := 1) (s1 := 1) 3 (fun n => rfl) ?_
  refine Ev.step (pc' := 23) (ls' := [some (.retAddr 0), some (.ref 0), some (.ref 633), some (.ref 663), some (.int 0), none, none]) (st' := []) (M1 := (memP ++ memM) ++ [gZero 2 1]) 3 (fun n => rfl) ?_
  exact h1
