section
/-! PURE: the constructor of the park -/
set_option maxRecDepth 200000 in
set_option maxHeartbeats 4000000 in
theorem ev_P : Ev none 999 79 0 [some (.ref 0), none] [] [.inr (10, gDef 10)] none (gPut mB9 339 (.inl (4, .inr (.inr ([some 345, some 441, some 537]))))) 632 43567 := by
  refine Ev.cast (c := (1 + (1 + (1 + (4 + (1 + (95 + (1 + (87 + (1 + (36 + (1 + (13 + (1 + (95 + (1 + (1 + (1 + (1 + (1 + (1 + (1 + (95 + (1 + (95 + (1 + (95 + 0))))))))))))))))))))))))))) (s := (2 + (440 + (14 + (1604 + (20 + (2585 + (12 + (17927 + (5 + (8820 + (11 + (1291 + (20 + (2585 + (3 + (3 + (201 + (201 + (2 + (6 + (20 + (2585 + (20 + (2585 + (20 + (2585 + 0))))))))))))))))))))))))))) ?_ (by decide) (by decide)
  refine Ev.add (pc' := 8) (ls' := [some (.ref 0), none]) (st' := [.ref 1, .ref 0]) (M1 := mA0) (c1 := 1) (s1 := 2) 4 (fun n => rfl) ?_
  refine Ev.step (pc' := 9) (ls' := [some (.ref 0), none]) (st' := [.ref 1, .ref 1, .ref 0]) (M1 := mA0) 1 (fun n => rfl) ?_
  refine Ev.call (rest := [.ref 1, .ref 0]) (M1 := mB0) (id := 48) (fun n => rfl) (Ev.of (eqR_eq cc_0) _) ?_
  refine Ev.add (pc' := 19) (ls' := [some (.ref 0), none]) (st' := [.ref 3, .ref 0]) (M1 := mA1) (c1 := 1) (s1 := 14) 3 (fun n => rfl) ?_
  refine Ev.step (pc' := 24) (ls' := [some (.ref 0), none]) (st' := [.ref 1, .ref 3, .ref 3, .ref 0]) (M1 := mA1) 3 (fun n => rfl) ?_
  refine Ev.call (rest := [.ref 3, .ref 0]) (M1 := mB1) (id := 25) (fun n => rfl) (Ev.of (eqR_eq cc_1) _) ?_
  refine Ev.add (pc' := 34) (ls' := [some (.ref 0), none]) (st' := [.ref 8, .ref 0]) (M1 := mA2) (c1 := 1) (s1 := 20) 3 (fun n => rfl) ?_
  refine Ev.step (pc' := 35) (ls' := [some (.ref 0), none]) (st' := [.ref 8, .ref 8, .ref 0]) (M1 := mA2) 1 (fun n => rfl) ?_
  refine Ev.call (rest := [.ref 8, .ref 0]) (M1 := mB2) (id := 5) (fun n => rfl) (Ev.of (eqR_eq cc_2) _) ?_
  refine Ev.add (pc' := 45) (ls' := [some (.ref 0), none]) (st' := [.ref 104, .ref 0]) (M1 := mA3) (c1 := 1) (s1 := 12) 3 (fun n => rfl) ?_
  refine Ev.step (pc' := 50) (ls' := [some (.ref 0), none]) (st' := [.ref 8, .ref 104, .ref 104, .ref 0]) (M1 := mA3) 3 (fun n => rfl) ?_
  refine Ev.call (rest := [.ref 104, .ref 0]) (M1 := mB3) (id := 53) (fun n => rfl) (Ev.of (eqR_eq cc_3) _) ?_
  refine Ev.add (pc' := 60) (ls' := [some (.ref 0), none]) (st' := [.ref 192, .ref 0]) (M1 := mA4) (c1 := 1) (s1 := 5) 3 (fun n => rfl) ?_
  refine Ev.step (pc' := 65) (ls' := [some (.ref 0), none]) (st' := [.ref 104, .ref 192, .ref 192, .ref 0]) (M1 := mA4) 3 (fun n => rfl) ?_
  refine Ev.call (rest := [.ref 192, .ref 0]) (M1 := mB4) (id := 14) (fun n => rfl) (Ev.of (eqR_eq cc_4) _) ?_
  refine Ev.add (pc' := 75) (ls' := [some (.ref 0), none]) (st' := [.ref 229, .ref 0]) (M1 := mA5) (c1 := 1) (s1 := 11) 3 (fun n => rfl) ?_
  refine Ev.step (pc' := 76) (ls' := [some (.ref 0), none]) (st' := [.ref 229, .ref 229, .ref 0]) (M1 := mA5) 1 (fun n => rfl) ?_
  refine Ev.call (rest := [.ref 229, .ref 0]) (M1 := mB5) (id := 41) (fun n => rfl) (Ev.of (eqR_eq cc_5) _) ?_
  refine Ev.add (pc' := 86) (ls' := [some (.ref 0), none]) (st' := [.ref 243, .ref 0]) (M1 := mA6) (c1 := 1) (s1 := 20) 3 (fun n => rfl) ?_
  refine Ev.step (pc' := 87) (ls' := [some (.ref 0), none]) (st' := [.ref 243, .ref 243, .ref 0]) (M1 := mA6) 1 (fun n => rfl) ?_
  refine Ev.call (rest := [.ref 243, .ref 0]) (M1 := mB6) (id := 5) (fun n => rfl) (Ev.of (eqR_eq cc_6) _) ?_
  refine Ev.add (pc' := 98) (ls' := [some (.ref 0), none]) (st' := [.ref 339, .ref 0]) (M1 := ((gPut mB6 0 (.inr (10, [.ref 1, .ref 3, .ref 8, .ref 104, .ref 192, .ref 229, .ref 243, .null, .null, .null, .null, .null, .null, .int 0, .int 0, .int 0]))) ++ [.inl (4, .inr (.inr ([none, none, none])))])) (c1 := 1) (s1 := 3) 4 (fun n => rfl) ?_
  refine Ev.add (pc' := 105) (ls' := [some (.ref 0), none]) (st' := [.ref 340, .ref 0]) (M1 := ((gPut ((gPut mB6 0 (.inr (10, [.ref 1, .ref 3, .ref 8, .ref 104, .ref 192, .ref 229, .ref 243, .null, .null, .null, .null, .null, .null, .int 0, .int 0, .int 0]))) ++ [.inl (4, .inr (.inr ([none, none, none])))]) 0 (.inr (10, [.ref 1, .ref 3, .ref 8, .ref 104, .ref 192, .ref 229, .ref 243, .ref 339, .null, .null, .null, .null, .null, .int 0, .int 0, .int 0]))) ++ [.inl (3, .inl ([0, 0, 0]))])) (c1 := 1) (s1 := 3) 4 (fun n => rfl) ?_
  refine Ev.add (pc' := 114) (ls' := [some (.ref 0), none]) (st' := [.ref 341, .ref 0]) (M1 := ((gPut ((gPut ((gPut mB6 0 (.inr (10, [.ref 1, .ref 3, .ref 8, .ref 104, .ref 192, .ref 229, .ref 243, .null, .null, .null, .null, .null, .null, .int 0, .int 0, .int 0]))) ++ [.inl (4, .inr (.inr ([none, none, none])))]) 0 (.inr (10, [.ref 1, .ref 3, .ref 8, .ref 104, .ref 192, .ref 229, .ref 243, .ref 339, .null, .null, .null, .null, .null, .int 0, .int 0, .int 0]))) ++ [.inl (3, .inl ([0, 0, 0]))]) 0 (.inr (10, [.ref 1, .ref 3, .ref 8, .ref 104, .ref 192, .ref 229, .ref 243, .ref 339, .ref 340, .null, .null, .null, .null, .int 0, .int 0, .int 0]))) ++ [.inl (1, .inl (gRep 201 0))])) (c1 := 1) (s1 := 201) 4 (fun n => rfl) ?_
  refine Ev.add (pc' := 123) (ls' := [some (.ref 0), none]) (st' := [.ref 342, .ref 0]) (M1 := ((gPut ((gPut ((gPut ((gPut mB6 0 (.inr (10, [.ref 1, .ref 3, .ref 8, .ref 104, .ref 192, .ref 229, .ref 243, .null, .null, .null, .null, .null, .null, .int 0, .int 0, .int 0]))) ++ [.inl (4, .inr (.inr ([none, none, none])))]) 0 (.inr (10, [.ref 1, .ref 3, .ref 8, .ref 104, .ref 192, .ref 229, .ref 243, .ref 339, .null, .null, .null, .null, .null, .int 0, .int 0, .int 0]))) ++ [.inl (3, .inl ([0, 0, 0]))]) 0 (.inr (10, [.ref 1, .ref 3, .ref 8, .ref 104, .ref 192, .ref 229, .ref 243, .ref 339, .ref 340, .null, .null, .null, .null, .int 0, .int 0, .int 0]))) ++ [.inl (1, .inl (gRep 201 0))]) 0 (.inr (10, [.ref 1, .ref 3, .ref 8, .ref 104, .ref 192, .ref 229, .ref 243, .ref 339, .ref 340, .ref 341, .null, .null, .null, .int 0, .int 0, .int 0]))) ++ [.inl (1, .inl (gRep 201 0))])) (c1 := 1) (s1 := 201) 4 (fun n => rfl) ?_
  refine Ev.add (pc' := 130) (ls' := [some (.ref 0), none]) (st' := [.ref 343, .ref 0]) (M1 := ((gPut ((gPut ((gPut ((gPut ((gPut mB6 0 (.inr (10, [.ref 1, .ref 3, .ref 8, .ref 104, .ref 192, .ref 229, .ref 243, .null, .null, .null, .null, .null, .null, .int 0, .int 0, .int 0]))) ++ [.inl (4, .inr (.inr ([none, none, none])))]) 0 (.inr (10, [.ref 1, .ref 3, .ref 8, .ref 104, .ref 192, .ref 229, .ref 243, .ref 339, .null, .null, .null, .null, .null, .int 0, .int 0, .int 0]))) ++ [.inl (3, .inl ([0, 0, 0]))]) 0 (.inr (10, [.ref 1, .ref 3, .ref 8, .ref 104, .ref 192, .ref 229, .ref 243, .ref 339, .ref 340, .null, .null, .null, .null, .int 0, .int 0, .int 0]))) ++ [.inl (1, .inl (gRep 201 0))]) 0 (.inr (10, [.ref 1, .ref 3, .ref 8, .ref 104, .ref 192, .ref 229, .ref 243, .ref 339, .ref 340, .ref 341, .null, .null, .null, .int 0, .int 0, .int 0]))) ++ [.inl (1, .inl (gRep 201 0))]) 0 (.inr (10, [.ref 1, .ref 3, .ref 8, .ref 104, .ref 192, .ref 229, .ref 243, .ref 339, .ref 340, .ref 341, .ref 342, .null, .null, .int 0, .int 0, .int 0]))) ++ [.inl (1, .inl ([0, 0]))])) (c1 := 1) (s1 := 2) 4 (fun n => rfl) ?_
  refine Ev.add (pc' := 138) (ls' := [some (.ref 0), none]) (st' := [.ref 344, .ref 0]) (M1 := ((gPut ((gPut ((gPut ((gPut ((gPut ((gPut mB6 0 (.inr (10, [.ref 1, .ref 3, .ref 8, .ref 104, .ref 192, .ref 229, .ref 243, .null, .null, .null, .null, .null, .null, .int 0, .int 0, .int 0]))) ++ [.inl (4, .inr (.inr ([none, none, none])))]) 0 (.inr (10, [.ref 1, .ref 3, .ref 8, .ref 104, .ref 192, .ref 229, .ref 243, .ref 339, .null, .null, .null, .null, .null, .int 0, .int 0, .int 0]))) ++ [.inl (3, .inl ([0, 0, 0]))]) 0 (.inr (10, [.ref 1, .ref 3, .ref 8, .ref 104, .ref 192, .ref 229, .ref 243, .ref 339, .ref 340, .null, .null, .null, .null, .int 0, .int 0, .int 0]))) ++ [.inl (1, .inl (gRep 201 0))]) 0 (.inr (10, [.ref 1, .ref 3, .ref 8, .ref 104, .ref 192, .ref 229, .ref 243, .ref 339, .ref 340, .ref 341, .null, .null, .null, .int 0, .int 0, .int 0]))) ++ [.inl (1, .inl (gRep 201 0))]) 0 (.inr (10, [.ref 1, .ref 3, .ref 8, .ref 104, .ref 192, .ref 229, .ref 243, .ref 339, .ref 340, .ref 341, .ref 342, .null, .null, .int 0, .int 0, .int 0]))) ++ [.inl (1, .inl ([0, 0]))]) 0 (.inr (10, [.ref 1, .ref 3, .ref 8, .ref 104, .ref 192, .ref 229, .ref 243, .ref 339, .ref 340, .ref 341, .ref 342, .ref 343, .null, .int 0, .int 0, .int 0]))) ++ [.inl (1, .inl (gRep 6 0))])) (c1 := 1) (s1 := 6) 4 (fun n => rfl) ?_
  refine Ev.add (pc' := 166) (ls' := [some (.ref 0), some (.int 0)]) (st' := [.ref 345, .int 0, .ref 339]) (M1 := mA7) (c1 := 1) (s1 := 20) 16 (fun n => rfl) ?_
  refine Ev.step (pc' := 167) (ls' := [some (.ref 0), some (.int 0)]) (st' := [.ref 345, .ref 345, .int 0, .ref 339]) (M1 := mA7) 1 (fun n => rfl) ?_
  refine Ev.call (rest := [.ref 345, .int 0, .ref 339]) (M1 := mB7) (id := 5) (fun n => rfl) (Ev.of (eqR_eq cc_7) _) ?_
  refine Ev.add (pc' := 166) (ls' := [some (.ref 0), some (.int 1)]) (st' := [.ref 441, .int 1, .ref 339]) (M1 := mA8) (c1 := 1) (s1 := 20) 10 (fun n => rfl) ?_
  refine Ev.step (pc' := 167) (ls' := [some (.ref 0), some (.int 1)]) (st' := [.ref 441, .ref 441, .int 1, .ref 339]) (M1 := mA8) 1 (fun n => rfl) ?_
  refine Ev.call (rest := [.ref 441, .int 1, .ref 339]) (M1 := mB8) (id := 5) (fun n => rfl) (Ev.of (eqR_eq cc_8) _) ?_
  refine Ev.add (pc' := 166) (ls' := [some (.ref 0), some (.int 2)]) (st' := [.ref 537, .int 2, .ref 339]) (M1 := mA9) (c1 := 1) (s1 := 20) 10 (fun n => rfl) ?_
  refine Ev.step (pc' := 167) (ls' := [some (.ref 0), some (.int 2)]) (st' := [.ref 537, .ref 537, .int 2, .ref 339]) (M1 := mA9) 1 (fun n => rfl) ?_
  refine Ev.call (rest := [.ref 537, .int 2, .ref 339]) (M1 := mB9) (id := 5) (fun n => rfl) (Ev.of (eqR_eq cc_9) _) ?_
  refine Ev.step (pc' := 177) (ls' := [some (.ref 0), some (.int 3)]) (st' := []) (M1 := (gPut mB9 339 (.inl (4, .inr (.inr ([some 345, some 441, some 537])))))) 6 (fun n => rfl) ?_
  exact Ev.ret (fun n => rfl)
end
section
/-! PURE: the law up to its loop -/
theorem eqM {a b : Mem} (h : eqL eqE a b = true) : a = b := eqL_eq eqE_eq _ _ h
set_option maxRecDepth 200000 in
theorem memP_k : eqL eqE (gPut mB9 339 (.inl (4, .inr (.inr ([some 345, some 441, some 537]))))) memP = true := by decide +kernel
theorem ev_P1 : Ev none 999 79 0 [some (.ref 0), none] [] [.inr (10, gDef 10)] none memP 632 43567 := by
  have h := ev_P
  rw [eqM memP_k] at h
  exact h
/-- the memory at the head of the law's loop: the park, the reference, the place for an answer -/
noncomputable def mem0 : Mem := memP ++ (memM ++ [.inl (2, .inr (.inl [0]))])
set_option maxRecDepth 200000 in
theorem mem0_k : eqL eqE ((memP ++ memM) ++ [gZero 2 1]) mem0 = true := by decide +kernel
set_option maxRecDepth 200000 in
set_option maxHeartbeats 4000000 in
theorem law_head (sc : List Int32) {v : Option Value} {M' : Mem} {c s : Nat} (h : Ev (some sc) 1000 250 23 [some (.retAddr 0), some (.ref 0), some (.ref 633), some (.ref 663), some (.int 0), none, none] [] mem0 v M' c s) : Ev (some sc) 1000 250 0 [some (.retAddr 0), none, none, none, none, none, none] [] [] v M' (664 + c) (80631 + s) := by
  have h1 : Ev (some sc) 1000 250 23 [some (.retAddr 0), some (.ref 0), some (.ref 633), some (.ref 663), some (.int 0), none, none] [] ((memP ++ memM) ++ [gZero 2 1]) v M' c s := by
    rw [eqM mem0_k]
    exact h
  refine Ev.cast (c := 1 + (632 + (1 + (29 + (1 + c))))) (s := 16 + (43567 + (63 + (36984 + (1 + s))))) ?_ (by omega) (by omega)
  refine Ev.add (pc' := 4) (ls' := [some (.retAddr 0), none, none, none, none, none, none]) (st' := [.ref 0, .ref 0]) (M1 := [.inr (10, gDef 10)]) (c1 := 1) (s1 := 16) 2 (fun n => rfl) ?_
  refine Ev.call (rest := [.ref 0]) (M1 := memP) (id := 79) (fun n => rfl) (ev_P1.any _) ?_
  refine Ev.add (pc' := 12) (ls' := [some (.retAddr 0), some (.ref 0), none, none, none, none, none]) (st' := [.ref 633, .ref 633]) (M1 := memP ++ [.inr (11, gDef 11)]) (c1 := 1) (s1 := 63) 3 (fun n => rfl) ?_
  refine Ev.call (rest := [.ref 633]) (M1 := memP ++ memM) (id := 143) (fun n => rfl) (Ev.of (eqR_eq ctorM) _) ?_
  refine Ev.add (pc' := 19) (ls' := [some (.retAddr 0), some (.ref 0), some (.ref 633), none, none, none, none]) (st' := [.ref 663]) (M1 := (memP ++ memM) ++ [gZero 2 1]) (c1 := 1) (s1 := 1) 3 (fun n => rfl) ?_
  refine Ev.step (pc' := 23) (ls' := [some (.retAddr 0), some (.ref 0), some (.ref 633), some (.ref 663), some (.int 0), none, none]) (st' := []) (M1 := (memP ++ memM) ++ [gZero 2 1]) 3 (fun n => rfl) ?_
  exact h1
end
