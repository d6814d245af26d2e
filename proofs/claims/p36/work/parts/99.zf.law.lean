/-! THE LAW'S LOOP: its pieces -/
theorem sc_c {sc : List Int32} {o : Nat} {ini : Bool} {j x : Int32} {r : List Value} {M : Mem} (hx : gAt sc j = some x) : gGet .iaload (some sc) o ini (.int j :: .retAddr 0 :: r) M = some (.int x :: r, M) := by
  show (match gAt sc j with
    | some x => some (Value.int x :: r, M)
    | none => none) = _
  rw [hx]
noncomputable def csI (cs : List CS) : Bool := cs.all (fun s => match s.1 with
  | some (.inl _) => true
  | _ => false)
theorem csI_V {cs : List CS} {ws : List Value} {v : Option Value} {M : Mem} (hi : csI cs = true) (h : ∃ s ∈ cs, csOK sT FL0 ws v M s) : ∃ r : Int32, v = some (.int r) := by
  obtain ⟨s, hs, h1, _⟩ := h
  have h2 := List.all_eq_true.mp hi s hs
  obtain ⟨rs, s2⟩ := s
  match rs, h2, h1 with
  | some (.inl p), _, h1 =>
    obtain ⟨y, h3, _⟩ := rs_9i h1
    exact ⟨y, h3⟩
noncomputable def csN9 (cs : List CS) : Bool := cs.all (fun s => match s.1 with
  | none => true
  | _ => false)
theorem csN_V9 {cs : List CS} {ws : List Value} {v : Option Value} {M : Mem} (hi : csN9 cs = true) (h : ∃ s ∈ cs, csOK sT FL0 ws v M s) : v = none := by
  obtain ⟨s, hs, h1, _⟩ := h
  have h2 := List.all_eq_true.mp hi s hs
  obtain ⟨rs, s2⟩ := s
  match rs, h2, h1 with
  | none, _, h1 =>
    cases v with
    | none => rfl
    | some w => exact h1.elim
/-- the numbers behind i -/
def SX (sc : List Int32) (i : Int32) : Prop := (∃ x, gAt sc (i + 1) = some x) ∧ (∃ x, gAt sc (i + 2) = some x) ∧ (∃ x, gAt sc (i + 3) = some x) ∧ (∃ x, gAt sc (i + 4) = some x) ∧ ∃ x, gAt sc (i + 5) = some x

theorem cl_19 {M : Mem} {x1 : Int32} {x2 : Int32} {x3 : Int32} {x4 : Int32} {x5 : Int32} {rest : List Value} (hM : ∃ vs, gNth M 0 = some (.inr (10, vs))) (hr : gRoom rest = true) : gCal (.invokevirtual 19) 12 (.int x5 :: .int x4 :: .int x3 :: .int x2 :: .int x1 :: .ref 0 :: rest) M = some (.inr (80, [some (.ref 0), some (.int x1), some (.int x2), some (.int x3), some (.int x4), some (.int x5)], rest)) := by
  obtain ⟨vs, hM⟩ := hM
  show @cond (Option ((List Value × Mem) ⊕ (Nat × Lo × List Value))) (true && gRecv M (.ref 0) 10 && gRoom rest && true) (some (.inr (80, [some (.ref 0), some (.int x1), some (.int x2), some (.int x3), some (.int x4), some (.int x5)], rest))) none = _
  rw [recv_c hM, hr]
  rfl
theorem cl_23 {M : Mem} {x1 : Int32} {x2 : Int32} {x3 : Int32} {x4 : Int32} {x5 : Int32} {rest : List Value} (hM : ∃ vs, gNth M 633 = some (.inr (11, vs))) (hr : gRoom rest = true) : gCal (.invokevirtual 23) 12 (.int x5 :: .int x4 :: .int x3 :: .int x2 :: .int x1 :: .ref 633 :: rest) M = some (.inr (136, [some (.ref 633), some (.int x1), some (.int x2), some (.int x3), some (.int x4), some (.int x5)], rest)) := by
  obtain ⟨vs, hM⟩ := hM
  show @cond (Option ((List Value × Mem) ⊕ (Nat × Lo × List Value))) (true && gRecv M (.ref 633) 11 && gRoom rest && true) (some (.inr (136, [some (.ref 633), some (.int x1), some (.int x2), some (.int x3), some (.int x4), some (.int x5)], rest))) none = _
  rw [recv_c hM, hr]
  rfl
theorem cl_24 {M : Mem} {x1 : Int32} {rest : List Value} (hM : ∃ vs, gNth M 0 = some (.inr (10, vs))) (hr : gRoom rest = true) : gCal (.invokevirtual 24) 12 (.int x1 :: .ref 0 :: rest) M = some (.inr (81, [some (.ref 0), some (.int x1)], rest)) := by
  obtain ⟨vs, hM⟩ := hM
  show @cond (Option ((List Value × Mem) ⊕ (Nat × Lo × List Value))) (true && gRecv M (.ref 0) 10 && gRoom rest && true) (some (.inr (81, [some (.ref 0), some (.int x1)], rest))) none = _
  rw [recv_c hM, hr]
  rfl
theorem cl_28 {M : Mem} {x1 : Int32} {rest : List Value} (hM : ∃ vs, gNth M 633 = some (.inr (11, vs))) (hr : gRoom rest = true) : gCal (.invokevirtual 28) 12 (.int x1 :: .ref 633 :: rest) M = some (.inr (138, [some (.ref 633), some (.int x1)], rest)) := by
  obtain ⟨vs, hM⟩ := hM
  show @cond (Option ((List Value × Mem) ⊕ (Nat × Lo × List Value))) (true && gRecv M (.ref 633) 11 && gRoom rest && true) (some (.inr (138, [some (.ref 633), some (.int x1)], rest))) none = _
  rw [recv_c hM, hr]
  rfl
theorem cl_29 {M : Mem} {x1 : Int32} {x2 : Int32} {rest : List Value} (hM : ∃ vs, gNth M 0 = some (.inr (10, vs))) (hr : gRoom rest = true) : gCal (.invokevirtual 29) 12 (.int x2 :: .int x1 :: .ref 0 :: rest) M = some (.inr (82, [some (.ref 0), some (.int x1), some (.int x2), none], rest)) := by
  obtain ⟨vs, hM⟩ := hM
  show @cond (Option ((List Value × Mem) ⊕ (Nat × Lo × List Value))) (true && gRecv M (.ref 0) 10 && gRoom rest && true) (some (.inr (82, [some (.ref 0), some (.int x1), some (.int x2), none], rest))) none = _
  rw [recv_c hM, hr]
  rfl
theorem cl_33 {M : Mem} {x1 : Int32} {x2 : Int32} {rest : List Value} (hM : ∃ vs, gNth M 633 = some (.inr (11, vs))) (hr : gRoom rest = true) : gCal (.invokevirtual 33) 12 (.int x2 :: .int x1 :: .ref 633 :: rest) M = some (.inr (155, [some (.ref 633), some (.int x1), some (.int x2), none], rest)) := by
  obtain ⟨vs, hM⟩ := hM
  show @cond (Option ((List Value × Mem) ⊕ (Nat × Lo × List Value))) (true && gRecv M (.ref 633) 11 && gRoom rest && true) (some (.inr (155, [some (.ref 633), some (.int x1), some (.int x2), none], rest))) none = _
  rw [recv_c hM, hr]
  rfl
theorem cl_34 {M : Mem} {x1 : Int32} {rest : List Value} (hM : ∃ vs, gNth M 0 = some (.inr (10, vs))) (hr : gRoom rest = true) : gCal (.invokevirtual 34) 12 (.int x1 :: .ref 0 :: rest) M = some (.inr (84, [some (.ref 0), some (.int x1)], rest)) := by
  obtain ⟨vs, hM⟩ := hM
  show @cond (Option ((List Value × Mem) ⊕ (Nat × Lo × List Value))) (true && gRecv M (.ref 0) 10 && gRoom rest && true) (some (.inr (84, [some (.ref 0), some (.int x1)], rest))) none = _
  rw [recv_c hM, hr]
  rfl
theorem cl_38 {M : Mem} {x1 : Int32} {rest : List Value} (hM : ∃ vs, gNth M 633 = some (.inr (11, vs))) (hr : gRoom rest = true) : gCal (.invokevirtual 38) 12 (.int x1 :: .ref 633 :: rest) M = some (.inr (156, [some (.ref 633), some (.int x1)], rest)) := by
  obtain ⟨vs, hM⟩ := hM
  show @cond (Option ((List Value × Mem) ⊕ (Nat × Lo × List Value))) (true && gRecv M (.ref 633) 11 && gRoom rest && true) (some (.inr (156, [some (.ref 633), some (.int x1)], rest))) none = _
  rw [recv_c hM, hr]
  rfl
theorem cl_39 {M : Mem} {rest : List Value} (hM : ∃ vs, gNth M 0 = some (.inr (10, vs))) (hr : gRoom rest = true) : gCal (.invokevirtual 39) 12 (.ref 0 :: rest) M = some (.inr (85, [some (.ref 0), none, none], rest)) := by
  obtain ⟨vs, hM⟩ := hM
  show @cond (Option ((List Value × Mem) ⊕ (Nat × Lo × List Value))) (true && gRecv M (.ref 0) 10 && gRoom rest && true) (some (.inr (85, [some (.ref 0), none, none], rest))) none = _
  rw [recv_c hM, hr]
  rfl
theorem cl_43 {M : Mem} {rest : List Value} (hM : ∃ vs, gNth M 633 = some (.inr (11, vs))) (hr : gRoom rest = true) : gCal (.invokevirtual 43) 12 (.ref 633 :: rest) M = some (.inr (183, [some (.ref 633), none], rest)) := by
  obtain ⟨vs, hM⟩ := hM
  show @cond (Option ((List Value × Mem) ⊕ (Nat × Lo × List Value))) (true && gRecv M (.ref 633) 11 && gRoom rest && true) (some (.inr (183, [some (.ref 633), none], rest))) none = _
  rw [recv_c hM, hr]
  rfl
theorem cl_44 {M : Mem} {x1 : Int32} {rest : List Value} (hM : ∃ vs, gNth M 0 = some (.inr (10, vs))) (hr : gRoom rest = true) : gCal (.invokevirtual 44) 12 (.int x1 :: .ref 0 :: rest) M = some (.inr (86, [some (.ref 0), some (.int x1), none, none], rest)) := by
  obtain ⟨vs, hM⟩ := hM
  show @cond (Option ((List Value × Mem) ⊕ (Nat × Lo × List Value))) (true && gRecv M (.ref 0) 10 && gRoom rest && true) (some (.inr (86, [some (.ref 0), some (.int x1), none, none], rest))) none = _
  rw [recv_c hM, hr]
  rfl
theorem cl_47 {M : Mem} {x1 : Int32} {rest : List Value} (hM : ∃ vs, gNth M 633 = some (.inr (11, vs))) (hr : gRoom rest = true) : gCal (.invokevirtual 47) 12 (.int x1 :: .ref 633 :: rest) M = some (.inr (184, [some (.ref 633), some (.int x1)], rest)) := by
  obtain ⟨vs, hM⟩ := hM
  show @cond (Option ((List Value × Mem) ⊕ (Nat × Lo × List Value))) (true && gRecv M (.ref 633) 11 && gRoom rest && true) (some (.inr (184, [some (.ref 633), some (.int x1)], rest))) none = _
  rw [recv_c hM, hr]
  rfl
theorem cl_48 {M : Mem} {rest : List Value} (hM : ∃ vs, gNth M 0 = some (.inr (10, vs))) (hr : gRoom rest = true) : gCal (.invokevirtual 48) 12 (.ref 0 :: rest) M = some (.inr (88, [some (.ref 0)], rest)) := by
  obtain ⟨vs, hM⟩ := hM
  show @cond (Option ((List Value × Mem) ⊕ (Nat × Lo × List Value))) (true && gRecv M (.ref 0) 10 && gRoom rest && true) (some (.inr (88, [some (.ref 0)], rest))) none = _
  rw [recv_c hM, hr]
  rfl
theorem cl_51 {M : Mem} {rest : List Value} (hM : ∃ vs, gNth M 633 = some (.inr (11, vs))) (hr : gRoom rest = true) : gCal (.invokevirtual 51) 12 (.ref 633 :: rest) M = some (.inr (185, [some (.ref 633)], rest)) := by
  obtain ⟨vs, hM⟩ := hM
  show @cond (Option ((List Value × Mem) ⊕ (Nat × Lo × List Value))) (true && gRecv M (.ref 633) 11 && gRoom rest && true) (some (.inr (185, [some (.ref 633)], rest))) none = _
  rw [recv_c hM, hr]
  rfl
theorem cl_52 {M : Mem} {x1 : Int32} {x2 : Int32} {x3 : Int32} {x4 : Int32} {x5 : Int32} {rest : List Value} (hM : ∃ vs, gNth M 0 = some (.inr (10, vs))) (hr : gRoom rest = true) : gCal (.invokevirtual 52) 12 (.int x5 :: .int x4 :: .int x3 :: .int x2 :: .int x1 :: .ref 0 :: rest) M = some (.inr (89, [some (.ref 0), some (.int x1), some (.int x2), some (.int x3), some (.int x4), some (.int x5), none], rest)) := by
  obtain ⟨vs, hM⟩ := hM
  show @cond (Option ((List Value × Mem) ⊕ (Nat × Lo × List Value))) (true && gRecv M (.ref 0) 10 && gRoom rest && true) (some (.inr (89, [some (.ref 0), some (.int x1), some (.int x2), some (.int x3), some (.int x4), some (.int x5), none], rest))) none = _
  rw [recv_c hM, hr]
  rfl
theorem cl_55 {M : Mem} {x1 : Int32} {x2 : Int32} {x3 : Int32} {x4 : Int32} {x5 : Int32} {rest : List Value} (hM : ∃ vs, gNth M 633 = some (.inr (11, vs))) (hr : gRoom rest = true) : gCal (.invokevirtual 55) 12 (.int x5 :: .int x4 :: .int x3 :: .int x2 :: .int x1 :: .ref 633 :: rest) M = some (.inr (190, [some (.ref 633), some (.int x1), some (.int x2), some (.int x3), some (.int x4), some (.int x5), none], rest)) := by
  obtain ⟨vs, hM⟩ := hM
  show @cond (Option ((List Value × Mem) ⊕ (Nat × Lo × List Value))) (true && gRecv M (.ref 633) 11 && gRoom rest && true) (some (.inr (190, [some (.ref 633), some (.int x1), some (.int x2), some (.int x3), some (.int x4), some (.int x5), none], rest))) none = _
  rw [recv_c hM, hr]
  rfl
theorem cl_56 {M : Mem} {x1 : Int32} {rest : List Value} (hM : ∃ vs, gNth M 0 = some (.inr (10, vs))) (hr : gRoom rest = true) : gCal (.invokevirtual 56) 12 (.int x1 :: .ref 0 :: rest) M = some (.inr (90, [some (.ref 0), some (.int x1)], rest)) := by
  obtain ⟨vs, hM⟩ := hM
  show @cond (Option ((List Value × Mem) ⊕ (Nat × Lo × List Value))) (true && gRecv M (.ref 0) 10 && gRoom rest && true) (some (.inr (90, [some (.ref 0), some (.int x1)], rest))) none = _
  rw [recv_c hM, hr]
  rfl
theorem cl_59 {M : Mem} {x1 : Int32} {rest : List Value} (hM : ∃ vs, gNth M 633 = some (.inr (11, vs))) (hr : gRoom rest = true) : gCal (.invokevirtual 59) 12 (.int x1 :: .ref 633 :: rest) M = some (.inr (191, [some (.ref 633), some (.int x1)], rest)) := by
  obtain ⟨vs, hM⟩ := hM
  show @cond (Option ((List Value × Mem) ⊕ (Nat × Lo × List Value))) (true && gRecv M (.ref 633) 11 && gRoom rest && true) (some (.inr (191, [some (.ref 633), some (.int x1)], rest))) none = _
  rw [recv_c hM, hr]
  rfl
theorem cl_60 {M : Mem} {x1 : Int32} {rest : List Value} (hM : ∃ vs, gNth M 0 = some (.inr (10, vs))) (hr : gRoom rest = true) : gCal (.invokevirtual 60) 12 (.int x1 :: .ref 0 :: rest) M = some (.inr (91, [some (.ref 0), some (.int x1)], rest)) := by
  obtain ⟨vs, hM⟩ := hM
  show @cond (Option ((List Value × Mem) ⊕ (Nat × Lo × List Value))) (true && gRecv M (.ref 0) 10 && gRoom rest && true) (some (.inr (91, [some (.ref 0), some (.int x1)], rest))) none = _
  rw [recv_c hM, hr]
  rfl
theorem cl_63 {M : Mem} {x1 : Int32} {rest : List Value} (hM : ∃ vs, gNth M 633 = some (.inr (11, vs))) (hr : gRoom rest = true) : gCal (.invokevirtual 63) 12 (.int x1 :: .ref 633 :: rest) M = some (.inr (207, [some (.ref 633), some (.int x1), none], rest)) := by
  obtain ⟨vs, hM⟩ := hM
  show @cond (Option ((List Value × Mem) ⊕ (Nat × Lo × List Value))) (true && gRecv M (.ref 633) 11 && gRoom rest && true) (some (.inr (207, [some (.ref 633), some (.int x1), none], rest))) none = _
  rw [recv_c hM, hr]
  rfl
theorem cl_64 {M : Mem} {rest : List Value} (hM : ∃ vs, gNth M 0 = some (.inr (10, vs))) (hr : gRoom rest = true) : gCal (.invokevirtual 64) 12 (.ref 0 :: rest) M = some (.inr (92, [some (.ref 0)], rest)) := by
  obtain ⟨vs, hM⟩ := hM
  show @cond (Option ((List Value × Mem) ⊕ (Nat × Lo × List Value))) (true && gRecv M (.ref 0) 10 && gRoom rest && true) (some (.inr (92, [some (.ref 0)], rest))) none = _
  rw [recv_c hM, hr]
  rfl
theorem cl_67 {M : Mem} {rest : List Value} (hM : ∃ vs, gNth M 633 = some (.inr (11, vs))) (hr : gRoom rest = true) : gCal (.invokevirtual 67) 12 (.ref 633 :: rest) M = some (.inr (209, [some (.ref 633)], rest)) := by
  obtain ⟨vs, hM⟩ := hM
  show @cond (Option ((List Value × Mem) ⊕ (Nat × Lo × List Value))) (true && gRecv M (.ref 633) 11 && gRoom rest && true) (some (.inr (209, [some (.ref 633)], rest))) none = _
  rw [recv_c hM, hr]
  rfl
theorem cl_68 {M : Mem} {x1 : Int32} {rest : List Value} (hM : ∃ vs, gNth M 0 = some (.inr (10, vs))) (hr : gRoom rest = true) : gCal (.invokevirtual 68) 12 (.int x1 :: .ref 0 :: rest) M = some (.inr (93, [some (.ref 0), some (.int x1), none, none], rest)) := by
  obtain ⟨vs, hM⟩ := hM
  show @cond (Option ((List Value × Mem) ⊕ (Nat × Lo × List Value))) (true && gRecv M (.ref 0) 10 && gRoom rest && true) (some (.inr (93, [some (.ref 0), some (.int x1), none, none], rest))) none = _
  rw [recv_c hM, hr]
  rfl
theorem cl_71 {M : Mem} {x1 : Int32} {rest : List Value} (hM : ∃ vs, gNth M 633 = some (.inr (11, vs))) (hr : gRoom rest = true) : gCal (.invokevirtual 71) 12 (.int x1 :: .ref 633 :: rest) M = some (.inr (210, [some (.ref 633), some (.int x1), none], rest)) := by
  obtain ⟨vs, hM⟩ := hM
  show @cond (Option ((List Value × Mem) ⊕ (Nat × Lo × List Value))) (true && gRecv M (.ref 633) 11 && gRoom rest && true) (some (.inr (210, [some (.ref 633), some (.int x1), none], rest))) none = _
  rw [recv_c hM, hr]
  rfl
theorem cl_72 {M : Mem} {rest : List Value} (hM : ∃ vs, gNth M 0 = some (.inr (10, vs))) (hr : gRoom rest = true) : gCal (.invokevirtual 72) 12 (.ref 0 :: rest) M = some (.inr (94, [some (.ref 0)], rest)) := by
  obtain ⟨vs, hM⟩ := hM
  show @cond (Option ((List Value × Mem) ⊕ (Nat × Lo × List Value))) (true && gRecv M (.ref 0) 10 && gRoom rest && true) (some (.inr (94, [some (.ref 0)], rest))) none = _
  rw [recv_c hM, hr]
  rfl
theorem cl_75 {M : Mem} {rest : List Value} (hM : ∃ vs, gNth M 633 = some (.inr (11, vs))) (hr : gRoom rest = true) : gCal (.invokevirtual 75) 12 (.ref 633 :: rest) M = some (.inr (211, [some (.ref 633), none], rest)) := by
  obtain ⟨vs, hM⟩ := hM
  show @cond (Option ((List Value × Mem) ⊕ (Nat × Lo × List Value))) (true && gRecv M (.ref 633) 11 && gRoom rest && true) (some (.inr (211, [some (.ref 633), none], rest))) none = _
  rw [recv_c hM, hr]
  rfl
theorem cl_76 {M : Mem} {x1 : Int32} {x2 : Int32} {rest : List Value} (hM : ∃ vs, gNth M 0 = some (.inr (10, vs))) (hr : gRoom rest = true) : gCal (.invokevirtual 76) 12 (.int x2 :: .int x1 :: .ref 0 :: rest) M = some (.inr (95, [some (.ref 0), some (.int x1), some (.int x2)], rest)) := by
  obtain ⟨vs, hM⟩ := hM
  show @cond (Option ((List Value × Mem) ⊕ (Nat × Lo × List Value))) (true && gRecv M (.ref 0) 10 && gRoom rest && true) (some (.inr (95, [some (.ref 0), some (.int x1), some (.int x2)], rest))) none = _
  rw [recv_c hM, hr]
  rfl
theorem cl_79 {M : Mem} {x1 : Int32} {x2 : Int32} {rest : List Value} (hM : ∃ vs, gNth M 633 = some (.inr (11, vs))) (hr : gRoom rest = true) : gCal (.invokevirtual 79) 12 (.int x2 :: .int x1 :: .ref 633 :: rest) M = some (.inr (212, [some (.ref 633), some (.int x1), some (.int x2)], rest)) := by
  obtain ⟨vs, hM⟩ := hM
  show @cond (Option ((List Value × Mem) ⊕ (Nat × Lo × List Value))) (true && gRecv M (.ref 633) 11 && gRoom rest && true) (some (.inr (212, [some (.ref 633), some (.int x1), some (.int x2)], rest))) none = _
  rw [recv_c hM, hr]
  rfl
theorem cl_86 {M : Mem} {x1 : Int32} {x2 : Int32} {rest : List Value} (hM : ∃ vs, gNth M 0 = some (.inr (10, vs))) (hr : gRoom rest = true) : gCal (.invokevirtual 86) 12 (.int x2 :: .int x1 :: .ref 0 :: rest) M = some (.inr (96, [some (.ref 0), some (.int x1), some (.int x2), none], rest)) := by
  obtain ⟨vs, hM⟩ := hM
  show @cond (Option ((List Value × Mem) ⊕ (Nat × Lo × List Value))) (true && gRecv M (.ref 0) 10 && gRoom rest && true) (some (.inr (96, [some (.ref 0), some (.int x1), some (.int x2), none], rest))) none = _
  rw [recv_c hM, hr]
  rfl
theorem cl_89 {M : Mem} {x1 : Int32} {x2 : Int32} {rest : List Value} (hM : ∃ vs, gNth M 633 = some (.inr (11, vs))) (hr : gRoom rest = true) : gCal (.invokevirtual 89) 12 (.int x2 :: .int x1 :: .ref 633 :: rest) M = some (.inr (215, [some (.ref 633), some (.int x1), some (.int x2)], rest)) := by
  obtain ⟨vs, hM⟩ := hM
  show @cond (Option ((List Value × Mem) ⊕ (Nat × Lo × List Value))) (true && gRecv M (.ref 633) 11 && gRoom rest && true) (some (.inr (215, [some (.ref 633), some (.int x1), some (.int x2)], rest))) none = _
  rw [recv_c hM, hr]
  rfl
theorem cl_90 {M : Mem} {rest : List Value} (hM : ∃ vs, gNth M 0 = some (.inr (10, vs))) (hr : gRoom rest = true) : gCal (.invokevirtual 90) 12 (.ref 0 :: rest) M = some (.inr (97, [some (.ref 0)], rest)) := by
  obtain ⟨vs, hM⟩ := hM
  show @cond (Option ((List Value × Mem) ⊕ (Nat × Lo × List Value))) (true && gRecv M (.ref 0) 10 && gRoom rest && true) (some (.inr (97, [some (.ref 0)], rest))) none = _
  rw [recv_c hM, hr]
  rfl
theorem cl_93 {M : Mem} {rest : List Value} (hM : ∃ vs, gNth M 633 = some (.inr (11, vs))) (hr : gRoom rest = true) : gCal (.invokevirtual 93) 12 (.ref 633 :: rest) M = some (.inr (217, [some (.ref 633)], rest)) := by
  obtain ⟨vs, hM⟩ := hM
  show @cond (Option ((List Value × Mem) ⊕ (Nat × Lo × List Value))) (true && gRecv M (.ref 633) 11 && gRoom rest && true) (some (.inr (217, [some (.ref 633)], rest))) none = _
  rw [recv_c hM, hr]
  rfl
theorem cl_94 {M : Mem} {rest : List Value} (hM : ∃ vs, gNth M 0 = some (.inr (10, vs))) (hr : gRoom rest = true) : gCal (.invokevirtual 94) 12 (.ref 0 :: rest) M = some (.inr (98, [some (.ref 0)], rest)) := by
  obtain ⟨vs, hM⟩ := hM
  show @cond (Option ((List Value × Mem) ⊕ (Nat × Lo × List Value))) (true && gRecv M (.ref 0) 10 && gRoom rest && true) (some (.inr (98, [some (.ref 0)], rest))) none = _
  rw [recv_c hM, hr]
  rfl
theorem cl_97 {M : Mem} {rest : List Value} (hM : ∃ vs, gNth M 633 = some (.inr (11, vs))) (hr : gRoom rest = true) : gCal (.invokevirtual 97) 12 (.ref 633 :: rest) M = some (.inr (218, [some (.ref 633), none, none], rest)) := by
  obtain ⟨vs, hM⟩ := hM
  show @cond (Option ((List Value × Mem) ⊕ (Nat × Lo × List Value))) (true && gRecv M (.ref 633) 11 && gRoom rest && true) (some (.inr (218, [some (.ref 633), none, none], rest))) none = _
  rw [recv_c hM, hr]
  rfl
theorem cl_98 {M : Mem} {x1 : Int32} {x2 : Int32} {rest : List Value} (hM : ∃ vs, gNth M 0 = some (.inr (10, vs))) (hr : gRoom rest = true) : gCal (.invokevirtual 98) 12 (.int x2 :: .int x1 :: .ref 0 :: rest) M = some (.inr (99, [some (.ref 0), some (.int x1), some (.int x2), none], rest)) := by
  obtain ⟨vs, hM⟩ := hM
  show @cond (Option ((List Value × Mem) ⊕ (Nat × Lo × List Value))) (true && gRecv M (.ref 0) 10 && gRoom rest && true) (some (.inr (99, [some (.ref 0), some (.int x1), some (.int x2), none], rest))) none = _
  rw [recv_c hM, hr]
  rfl
theorem cl_101 {M : Mem} {x1 : Int32} {x2 : Int32} {rest : List Value} (hM : ∃ vs, gNth M 633 = some (.inr (11, vs))) (hr : gRoom rest = true) : gCal (.invokevirtual 101) 12 (.int x2 :: .int x1 :: .ref 633 :: rest) M = some (.inr (223, [some (.ref 633), some (.int x1), some (.int x2), none, none], rest)) := by
  obtain ⟨vs, hM⟩ := hM
  show @cond (Option ((List Value × Mem) ⊕ (Nat × Lo × List Value))) (true && gRecv M (.ref 633) 11 && gRoom rest && true) (some (.inr (223, [some (.ref 633), some (.int x1), some (.int x2), none, none], rest))) none = _
  rw [recv_c hM, hr]
  rfl
theorem cl_102 {M : Mem} {rest : List Value} (hM : ∃ vs, gNth M 0 = some (.inr (10, vs))) (hr : gRoom rest = true) : gCal (.invokevirtual 102) 12 (.ref 0 :: rest) M = some (.inr (100, [some (.ref 0), none], rest)) := by
  obtain ⟨vs, hM⟩ := hM
  show @cond (Option ((List Value × Mem) ⊕ (Nat × Lo × List Value))) (true && gRecv M (.ref 0) 10 && gRoom rest && true) (some (.inr (100, [some (.ref 0), none], rest))) none = _
  rw [recv_c hM, hr]
  rfl
theorem cl_105 {M : Mem} {rest : List Value} (hM : ∃ vs, gNth M 633 = some (.inr (11, vs))) (hr : gRoom rest = true) : gCal (.invokevirtual 105) 12 (.ref 633 :: rest) M = some (.inr (225, [some (.ref 633), none, none, none, none, none, none, none], rest)) := by
  obtain ⟨vs, hM⟩ := hM
  show @cond (Option ((List Value × Mem) ⊕ (Nat × Lo × List Value))) (true && gRecv M (.ref 633) 11 && gRoom rest && true) (some (.inr (225, [some (.ref 633), none, none, none, none, none, none, none], rest))) none = _
  rw [recv_c hM, hr]
  rfl
theorem cl_106 {M : Mem} {x1 : Int32} {x2 : Int32} {rest : List Value} (hM : ∃ vs, gNth M 0 = some (.inr (10, vs))) (hr : gRoom rest = true) : gCal (.invokevirtual 106) 12 (.int x2 :: .int x1 :: .ref 0 :: rest) M = some (.inr (102, [some (.ref 0), some (.int x1), some (.int x2)], rest)) := by
  obtain ⟨vs, hM⟩ := hM
  show @cond (Option ((List Value × Mem) ⊕ (Nat × Lo × List Value))) (true && gRecv M (.ref 0) 10 && gRoom rest && true) (some (.inr (102, [some (.ref 0), some (.int x1), some (.int x2)], rest))) none = _
  rw [recv_c hM, hr]
  rfl
theorem cl_109 {M : Mem} {x1 : Int32} {x2 : Int32} {rest : List Value} (hM : ∃ vs, gNth M 633 = some (.inr (11, vs))) (hr : gRoom rest = true) : gCal (.invokevirtual 109) 12 (.int x2 :: .int x1 :: .ref 633 :: rest) M = some (.inr (228, [some (.ref 633), some (.int x1), some (.int x2), none, none], rest)) := by
  obtain ⟨vs, hM⟩ := hM
  show @cond (Option ((List Value × Mem) ⊕ (Nat × Lo × List Value))) (true && gRecv M (.ref 633) 11 && gRoom rest && true) (some (.inr (228, [some (.ref 633), some (.int x1), some (.int x2), none, none], rest))) none = _
  rw [recv_c hM, hr]
  rfl
theorem cl_110 {M : Mem} {x1 : Int32} {x2 : Int32} {x3 : Int32} {x4 : Int32} {rest : List Value} (hM : ∃ vs, gNth M 0 = some (.inr (10, vs))) (hr : gRoom rest = true) : gCal (.invokevirtual 110) 12 (.int x4 :: .int x3 :: .int x2 :: .int x1 :: .ref 0 :: rest) M = some (.inr (103, [some (.ref 0), some (.int x1), some (.int x2), some (.int x3), some (.int x4), none, none, none, none, none, none], rest)) := by
  obtain ⟨vs, hM⟩ := hM
  show @cond (Option ((List Value × Mem) ⊕ (Nat × Lo × List Value))) (true && gRecv M (.ref 0) 10 && gRoom rest && true) (some (.inr (103, [some (.ref 0), some (.int x1), some (.int x2), some (.int x3), some (.int x4), none, none, none, none, none, none], rest))) none = _
  rw [recv_c hM, hr]
  rfl
theorem cl_114 {M : Mem} {x1 : Int32} {x2 : Int32} {x3 : Int32} {x4 : Int32} {rest : List Value} (hM : ∃ vs, gNth M 633 = some (.inr (11, vs))) (hr : gRoom rest = true) : gCal (.invokevirtual 114) 12 (.int x4 :: .int x3 :: .int x2 :: .int x1 :: .ref 633 :: rest) M = some (.inr (229, [some (.ref 633), some (.int x1), some (.int x2), some (.int x3), some (.int x4), none, none, none, none, none], rest)) := by
  obtain ⟨vs, hM⟩ := hM
  show @cond (Option ((List Value × Mem) ⊕ (Nat × Lo × List Value))) (true && gRecv M (.ref 633) 11 && gRoom rest && true) (some (.inr (229, [some (.ref 633), some (.int x1), some (.int x2), some (.int x3), some (.int x4), none, none, none, none, none], rest))) none = _
  rw [recv_c hM, hr]
  rfl
theorem cl_115 {M : Mem} {x1 : Int32} {x2 : Int32} {x3 : Int32} {x4 : Int32} {rest : List Value} (hM : ∃ vs, gNth M 0 = some (.inr (10, vs))) (hr : gRoom rest = true) : gCal (.invokevirtual 115) 12 (.int x4 :: .int x3 :: .int x2 :: .int x1 :: .ref 0 :: rest) M = some (.inr (104, [some (.ref 0), some (.int x1), some (.int x2), some (.int x3), some (.int x4)], rest)) := by
  obtain ⟨vs, hM⟩ := hM
  show @cond (Option ((List Value × Mem) ⊕ (Nat × Lo × List Value))) (true && gRecv M (.ref 0) 10 && gRoom rest && true) (some (.inr (104, [some (.ref 0), some (.int x1), some (.int x2), some (.int x3), some (.int x4)], rest))) none = _
  rw [recv_c hM, hr]
  rfl
theorem cl_118 {M : Mem} {x1 : Int32} {x2 : Int32} {x3 : Int32} {x4 : Int32} {rest : List Value} (hM : ∃ vs, gNth M 633 = some (.inr (11, vs))) (hr : gRoom rest = true) : gCal (.invokevirtual 118) 12 (.int x4 :: .int x3 :: .int x2 :: .int x1 :: .ref 633 :: rest) M = some (.inr (231, [some (.ref 633), some (.int x1), some (.int x2), some (.int x3), some (.int x4)], rest)) := by
  obtain ⟨vs, hM⟩ := hM
  show @cond (Option ((List Value × Mem) ⊕ (Nat × Lo × List Value))) (true && gRecv M (.ref 633) 11 && gRoom rest && true) (some (.inr (231, [some (.ref 633), some (.int x1), some (.int x2), some (.int x3), some (.int x4)], rest))) none = _
  rw [recv_c hM, hr]
  rfl
theorem cl_119 {M : Mem} {x1 : Int32} {x2 : Int32} {rest : List Value} (hM : ∃ vs, gNth M 0 = some (.inr (10, vs))) (hr : gRoom rest = true) : gCal (.invokevirtual 119) 12 (.int x2 :: .int x1 :: .ref 0 :: rest) M = some (.inr (105, [some (.ref 0), some (.int x1), some (.int x2), none, none, none, none], rest)) := by
  obtain ⟨vs, hM⟩ := hM
  show @cond (Option ((List Value × Mem) ⊕ (Nat × Lo × List Value))) (true && gRecv M (.ref 0) 10 && gRoom rest && true) (some (.inr (105, [some (.ref 0), some (.int x1), some (.int x2), none, none, none, none], rest))) none = _
  rw [recv_c hM, hr]
  rfl
theorem cl_122 {M : Mem} {x1 : Int32} {x2 : Int32} {rest : List Value} (hM : ∃ vs, gNth M 633 = some (.inr (11, vs))) (hr : gRoom rest = true) : gCal (.invokevirtual 122) 12 (.int x2 :: .int x1 :: .ref 633 :: rest) M = some (.inr (232, [some (.ref 633), some (.int x1), some (.int x2), none, none, none, none], rest)) := by
  obtain ⟨vs, hM⟩ := hM
  show @cond (Option ((List Value × Mem) ⊕ (Nat × Lo × List Value))) (true && gRecv M (.ref 633) 11 && gRoom rest && true) (some (.inr (232, [some (.ref 633), some (.int x1), some (.int x2), none, none, none, none], rest))) none = _
  rw [recv_c hM, hr]
  rfl
theorem cl_123 {M : Mem} {x1 : Int32} {x2 : Int32} {rest : List Value} (hM : ∃ vs, gNth M 0 = some (.inr (10, vs))) (hr : gRoom rest = true) : gCal (.invokevirtual 123) 12 (.int x2 :: .int x1 :: .ref 0 :: rest) M = some (.inr (108, [some (.ref 0), some (.int x1), some (.int x2), none], rest)) := by
  obtain ⟨vs, hM⟩ := hM
  show @cond (Option ((List Value × Mem) ⊕ (Nat × Lo × List Value))) (true && gRecv M (.ref 0) 10 && gRoom rest && true) (some (.inr (108, [some (.ref 0), some (.int x1), some (.int x2), none], rest))) none = _
  rw [recv_c hM, hr]
  rfl
theorem cl_126 {M : Mem} {x1 : Int32} {x2 : Int32} {rest : List Value} (hM : ∃ vs, gNth M 633 = some (.inr (11, vs))) (hr : gRoom rest = true) : gCal (.invokevirtual 126) 12 (.int x2 :: .int x1 :: .ref 633 :: rest) M = some (.inr (235, [some (.ref 633), some (.int x1), some (.int x2), none, none, none], rest)) := by
  obtain ⟨vs, hM⟩ := hM
  show @cond (Option ((List Value × Mem) ⊕ (Nat × Lo × List Value))) (true && gRecv M (.ref 633) 11 && gRoom rest && true) (some (.inr (235, [some (.ref 633), some (.int x1), some (.int x2), none, none, none], rest))) none = _
  rw [recv_c hM, hr]
  rfl
theorem cl_127 {M : Mem} {x1 : Int32} {rest : List Value} (hM : ∃ vs, gNth M 0 = some (.inr (10, vs))) (hr : gRoom rest = true) : gCal (.invokevirtual 127) 12 (.int x1 :: .ref 0 :: rest) M = some (.inr (113, [some (.ref 0), some (.int x1)], rest)) := by
  obtain ⟨vs, hM⟩ := hM
  show @cond (Option ((List Value × Mem) ⊕ (Nat × Lo × List Value))) (true && gRecv M (.ref 0) 10 && gRoom rest && true) (some (.inr (113, [some (.ref 0), some (.int x1)], rest))) none = _
  rw [recv_c hM, hr]
  rfl
theorem cl_130 {M : Mem} {x1 : Int32} {rest : List Value} (hM : ∃ vs, gNth M 633 = some (.inr (11, vs))) (hr : gRoom rest = true) : gCal (.invokevirtual 130) 12 (.int x1 :: .ref 633 :: rest) M = some (.inr (236, [some (.ref 633), some (.int x1)], rest)) := by
  obtain ⟨vs, hM⟩ := hM
  show @cond (Option ((List Value × Mem) ⊕ (Nat × Lo × List Value))) (true && gRecv M (.ref 633) 11 && gRoom rest && true) (some (.inr (236, [some (.ref 633), some (.int x1)], rest))) none = _
  rw [recv_c hM, hr]
  rfl
theorem cl_131 {M : Mem} {x1 : Int32} {x2 : Int32} {x3 : Int32} {x4 : Int32} {rest : List Value} (hM : ∃ vs, gNth M 0 = some (.inr (10, vs))) (hr : gRoom rest = true) : gCal (.invokevirtual 131) 12 (.int x4 :: .int x3 :: .int x2 :: .int x1 :: .ref 0 :: rest) M = some (.inr (114, [some (.ref 0), some (.int x1), some (.int x2), some (.int x3), some (.int x4), none], rest)) := by
  obtain ⟨vs, hM⟩ := hM
  show @cond (Option ((List Value × Mem) ⊕ (Nat × Lo × List Value))) (true && gRecv M (.ref 0) 10 && gRoom rest && true) (some (.inr (114, [some (.ref 0), some (.int x1), some (.int x2), some (.int x3), some (.int x4), none], rest))) none = _
  rw [recv_c hM, hr]
  rfl
theorem cl_134 {M : Mem} {x1 : Int32} {x2 : Int32} {x3 : Int32} {x4 : Int32} {rest : List Value} (hM : ∃ vs, gNth M 633 = some (.inr (11, vs))) (hr : gRoom rest = true) : gCal (.invokevirtual 134) 12 (.int x4 :: .int x3 :: .int x2 :: .int x1 :: .ref 633 :: rest) M = some (.inr (237, [some (.ref 633), some (.int x1), some (.int x2), some (.int x3), some (.int x4), none, none], rest)) := by
  obtain ⟨vs, hM⟩ := hM
  show @cond (Option ((List Value × Mem) ⊕ (Nat × Lo × List Value))) (true && gRecv M (.ref 633) 11 && gRoom rest && true) (some (.inr (237, [some (.ref 633), some (.int x1), some (.int x2), some (.int x3), some (.int x4), none, none], rest))) none = _
  rw [recv_c hM, hr]
  rfl
theorem cl_135 {M : Mem} {x1 : Int32} {x2 : Int32} {x3 : Int32} {rest : List Value} (hM : ∃ vs, gNth M 0 = some (.inr (10, vs))) (hr : gRoom rest = true) : gCal (.invokevirtual 135) 12 (.int x3 :: .int x2 :: .int x1 :: .ref 0 :: rest) M = some (.inr (115, [some (.ref 0), some (.int x1), some (.int x2), some (.int x3), none], rest)) := by
  obtain ⟨vs, hM⟩ := hM
  show @cond (Option ((List Value × Mem) ⊕ (Nat × Lo × List Value))) (true && gRecv M (.ref 0) 10 && gRoom rest && true) (some (.inr (115, [some (.ref 0), some (.int x1), some (.int x2), some (.int x3), none], rest))) none = _
  rw [recv_c hM, hr]
  rfl
theorem cl_139 {M : Mem} {x1 : Int32} {x2 : Int32} {x3 : Int32} {rest : List Value} (hM : ∃ vs, gNth M 633 = some (.inr (11, vs))) (hr : gRoom rest = true) : gCal (.invokevirtual 139) 12 (.int x3 :: .int x2 :: .int x1 :: .ref 633 :: rest) M = some (.inr (240, [some (.ref 633), some (.int x1), some (.int x2), some (.int x3), none, none], rest)) := by
  obtain ⟨vs, hM⟩ := hM
  show @cond (Option ((List Value × Mem) ⊕ (Nat × Lo × List Value))) (true && gRecv M (.ref 633) 11 && gRoom rest && true) (some (.inr (240, [some (.ref 633), some (.int x1), some (.int x2), some (.int x3), none, none], rest))) none = _
  rw [recv_c hM, hr]
  rfl
theorem cl_140 {M : Mem} {x1 : Int32} {rest : List Value} (hM : ∃ vs, gNth M 0 = some (.inr (10, vs))) (hr : gRoom rest = true) : gCal (.invokevirtual 140) 12 (.int x1 :: .ref 0 :: rest) M = some (.inr (116, [some (.ref 0), some (.int x1)], rest)) := by
  obtain ⟨vs, hM⟩ := hM
  show @cond (Option ((List Value × Mem) ⊕ (Nat × Lo × List Value))) (true && gRecv M (.ref 0) 10 && gRoom rest && true) (some (.inr (116, [some (.ref 0), some (.int x1)], rest))) none = _
  rw [recv_c hM, hr]
  rfl
theorem cl_143 {M : Mem} {x1 : Int32} {rest : List Value} (hM : ∃ vs, gNth M 633 = some (.inr (11, vs))) (hr : gRoom rest = true) : gCal (.invokevirtual 143) 12 (.int x1 :: .ref 633 :: rest) M = some (.inr (241, [some (.ref 633), some (.int x1)], rest)) := by
  obtain ⟨vs, hM⟩ := hM
  show @cond (Option ((List Value × Mem) ⊕ (Nat × Lo × List Value))) (true && gRecv M (.ref 633) 11 && gRoom rest && true) (some (.inr (241, [some (.ref 633), some (.int x1)], rest))) none = _
  rw [recv_c hM, hr]
  rfl
theorem cl_144 {M : Mem} {rest : List Value} (hM : ∃ vs, gNth M 0 = some (.inr (10, vs))) (hr : gRoom rest = true) : gCal (.invokevirtual 144) 12 (.ref 0 :: rest) M = some (.inr (117, [some (.ref 0), none], rest)) := by
  obtain ⟨vs, hM⟩ := hM
  show @cond (Option ((List Value × Mem) ⊕ (Nat × Lo × List Value))) (true && gRecv M (.ref 0) 10 && gRoom rest && true) (some (.inr (117, [some (.ref 0), none], rest))) none = _
  rw [recv_c hM, hr]
  rfl
theorem cl_147 {M : Mem} {rest : List Value} (hM : ∃ vs, gNth M 633 = some (.inr (11, vs))) (hr : gRoom rest = true) : gCal (.invokevirtual 147) 12 (.ref 633 :: rest) M = some (.inr (242, [some (.ref 633), none, none, none, none, none, none], rest)) := by
  obtain ⟨vs, hM⟩ := hM
  show @cond (Option ((List Value × Mem) ⊕ (Nat × Lo × List Value))) (true && gRecv M (.ref 633) 11 && gRoom rest && true) (some (.inr (242, [some (.ref 633), none, none, none, none, none, none], rest))) none = _
  rw [recv_c hM, hr]
  rfl
theorem cl_148 {M : Mem} {x1 : Int32} {x2 : Int32} {rest : List Value} (hM : ∃ vs, gNth M 0 = some (.inr (10, vs))) (hr : gRoom rest = true) : gCal (.invokevirtual 148) 12 (.int x2 :: .int x1 :: .ref 0 :: rest) M = some (.inr (119, [some (.ref 0), some (.int x1), some (.int x2)], rest)) := by
  obtain ⟨vs, hM⟩ := hM
  show @cond (Option ((List Value × Mem) ⊕ (Nat × Lo × List Value))) (true && gRecv M (.ref 0) 10 && gRoom rest && true) (some (.inr (119, [some (.ref 0), some (.int x1), some (.int x2)], rest))) none = _
  rw [recv_c hM, hr]
  rfl
theorem cl_151 {M : Mem} {x1 : Int32} {x2 : Int32} {rest : List Value} (hM : ∃ vs, gNth M 633 = some (.inr (11, vs))) (hr : gRoom rest = true) : gCal (.invokevirtual 151) 12 (.int x2 :: .int x1 :: .ref 633 :: rest) M = some (.inr (244, [some (.ref 633), some (.int x1), some (.int x2)], rest)) := by
  obtain ⟨vs, hM⟩ := hM
  show @cond (Option ((List Value × Mem) ⊕ (Nat × Lo × List Value))) (true && gRecv M (.ref 633) 11 && gRoom rest && true) (some (.inr (244, [some (.ref 633), some (.int x1), some (.int x2)], rest))) none = _
  rw [recv_c hM, hr]
  rfl
theorem cl_152 {M : Mem} {x1 : Int32} {x2 : Int32} {rest : List Value} (hM : ∃ vs, gNth M 0 = some (.inr (10, vs))) (hr : gRoom rest = true) : gCal (.invokevirtual 152) 12 (.int x2 :: .int x1 :: .ref 0 :: rest) M = some (.inr (120, [some (.ref 0), some (.int x1), some (.int x2), none], rest)) := by
  obtain ⟨vs, hM⟩ := hM
  show @cond (Option ((List Value × Mem) ⊕ (Nat × Lo × List Value))) (true && gRecv M (.ref 0) 10 && gRoom rest && true) (some (.inr (120, [some (.ref 0), some (.int x1), some (.int x2), none], rest))) none = _
  rw [recv_c hM, hr]
  rfl
theorem cl_155 {M : Mem} {x1 : Int32} {x2 : Int32} {rest : List Value} (hM : ∃ vs, gNth M 633 = some (.inr (11, vs))) (hr : gRoom rest = true) : gCal (.invokevirtual 155) 12 (.int x2 :: .int x1 :: .ref 633 :: rest) M = some (.inr (245, [some (.ref 633), some (.int x1), some (.int x2), none, none, none, none], rest)) := by
  obtain ⟨vs, hM⟩ := hM
  show @cond (Option ((List Value × Mem) ⊕ (Nat × Lo × List Value))) (true && gRecv M (.ref 633) 11 && gRoom rest && true) (some (.inr (245, [some (.ref 633), some (.int x1), some (.int x2), none, none, none, none], rest))) none = _
  rw [recv_c hM, hr]
  rfl
theorem cl_156 {M : Mem} {x1 : Int32} {rest : List Value} (hM : ∃ vs, gNth M 0 = some (.inr (10, vs))) (hr : gRoom rest = true) : gCal (.invokevirtual 156) 12 (.int x1 :: .ref 0 :: rest) M = some (.inr (123, [some (.ref 0), some (.int x1)], rest)) := by
  obtain ⟨vs, hM⟩ := hM
  show @cond (Option ((List Value × Mem) ⊕ (Nat × Lo × List Value))) (true && gRecv M (.ref 0) 10 && gRoom rest && true) (some (.inr (123, [some (.ref 0), some (.int x1)], rest))) none = _
  rw [recv_c hM, hr]
  rfl
theorem cl_159 {M : Mem} {x1 : Int32} {rest : List Value} (hM : ∃ vs, gNth M 633 = some (.inr (11, vs))) (hr : gRoom rest = true) : gCal (.invokevirtual 159) 12 (.int x1 :: .ref 633 :: rest) M = some (.inr (246, [some (.ref 633), some (.int x1), none], rest)) := by
  obtain ⟨vs, hM⟩ := hM
  show @cond (Option ((List Value × Mem) ⊕ (Nat × Lo × List Value))) (true && gRecv M (.ref 633) 11 && gRoom rest && true) (some (.inr (246, [some (.ref 633), some (.int x1), none], rest))) none = _
  rw [recv_c hM, hr]
  rfl
theorem cl_160 {M : Mem} {x1 : Int32} {rest : List Value} (hM : ∃ vs, gNth M 0 = some (.inr (10, vs))) (hr : gRoom rest = true) : gCal (.invokevirtual 160) 12 (.int x1 :: .ref 0 :: rest) M = some (.inr (124, [some (.ref 0), some (.int x1)], rest)) := by
  obtain ⟨vs, hM⟩ := hM
  show @cond (Option ((List Value × Mem) ⊕ (Nat × Lo × List Value))) (true && gRecv M (.ref 0) 10 && gRoom rest && true) (some (.inr (124, [some (.ref 0), some (.int x1)], rest))) none = _
  rw [recv_c hM, hr]
  rfl
theorem cl_163 {M : Mem} {x1 : Int32} {rest : List Value} (hM : ∃ vs, gNth M 633 = some (.inr (11, vs))) (hr : gRoom rest = true) : gCal (.invokevirtual 163) 12 (.int x1 :: .ref 633 :: rest) M = some (.inr (247, [some (.ref 633), some (.int x1), none], rest)) := by
  obtain ⟨vs, hM⟩ := hM
  show @cond (Option ((List Value × Mem) ⊕ (Nat × Lo × List Value))) (true && gRecv M (.ref 633) 11 && gRoom rest && true) (some (.inr (247, [some (.ref 633), some (.int x1), none], rest))) none = _
  rw [recv_c hM, hr]
  rfl
theorem cl_164 {M : Mem} {x1 : Int32} {rest : List Value} (hM : ∃ vs, gNth M 0 = some (.inr (10, vs))) (hr : gRoom rest = true) : gCal (.invokevirtual 164) 12 (.int x1 :: .ref 0 :: rest) M = some (.inr (125, [some (.ref 0), some (.int x1)], rest)) := by
  obtain ⟨vs, hM⟩ := hM
  show @cond (Option ((List Value × Mem) ⊕ (Nat × Lo × List Value))) (true && gRecv M (.ref 0) 10 && gRoom rest && true) (some (.inr (125, [some (.ref 0), some (.int x1)], rest))) none = _
  rw [recv_c hM, hr]
  rfl
theorem cl_167 {M : Mem} {x1 : Int32} {rest : List Value} (hM : ∃ vs, gNth M 633 = some (.inr (11, vs))) (hr : gRoom rest = true) : gCal (.invokevirtual 167) 12 (.int x1 :: .ref 633 :: rest) M = some (.inr (248, [some (.ref 633), some (.int x1), none, none], rest)) := by
  obtain ⟨vs, hM⟩ := hM
  show @cond (Option ((List Value × Mem) ⊕ (Nat × Lo × List Value))) (true && gRecv M (.ref 633) 11 && gRoom rest && true) (some (.inr (248, [some (.ref 633), some (.int x1), none, none], rest))) none = _
  rw [recv_c hM, hr]
  rfl
theorem cl_85 {M : Mem} {x1 : Int32} {x2 : Int32} {rest : List Value} (hM : ∃ vs, gNth M 633 = some (.inr (11, vs))) (hr : gRoom rest = true) : gCal (.invokevirtual 85) 12 (.int x2 :: .int x1 :: .ref 633 :: rest) M = some (.inr (214, [some (.ref 633), some (.int x1), some (.int x2)], rest)) := by
  obtain ⟨vs, hM⟩ := hM
  show @cond (Option ((List Value × Mem) ⊕ (Nat × Lo × List Value))) (true && gRecv M (.ref 633) 11 && gRoom rest && true) (some (.inr (214, [some (.ref 633), some (.int x1), some (.int x2)], rest))) none = _
  rw [recv_c hM, hr]
  rfl
theorem xtr_of {args : Array Value} {s : State} (hts : ∀ w ∈ lw_tbl, w.before args s = true) (hgv : (Jvm.Cond.and given_1 narrow_1).before args s = true) : Xtr s.heap.size s := by
  have hs := flat_of_before _ hgv
  have hA : ∀ a : Nat, a < s.heap.size → ¬ s.heap.size ≤ a := fun a h => Nat.not_le.mpr h
  have h1 : (Cond.isRef (.static Bundle.tN "UNASSIGNED_STACK" Bundle.steD)).before args s = true := hs _ (by decide +kernel)
  have h2 : (Cond.isRef (.static Bundle.tN "SUPPRESSED_SENTINEL" Bundle.listD)).before args s = true := hs _ (by decide +kernel)
  have h3 : (Cond.exactly (.string RX10 244) "java/lang/String").before args s = true := hs _ (by decide +kernel)
  have h4 : (Cond.stringRef RX10 244 exTx).before args s = true := hts _ (by decide +kernel)
  have l1 : (Cond.laysStatic Bundle.tN "UNASSIGNED_STACK" Bundle.steD).before args s = true := hts _ (by decide +kernel)
  have l2 : (Cond.laysStatic Bundle.tN "SUPPRESSED_SENTINEL" Bundle.listD).before args s = true := hts _ (by decide +kernel)
  have i1 : (Cond.initialized Bundle.tN).before args s = true := hts _ (by decide +kernel)
  obtain ⟨q, hq⟩ : ∃ q : Nat, (Term.string RX10 244).eval args s none [] s = some (.ref q) := by
    obtain ⟨q, -, -, -, h, -⟩ := Cond.exactly_spec (show (Cond.exactly (.string RX10 244) "java/lang/String").holds args s none s [] = true from h3)
    exact ⟨q, h⟩
  exact ⟨vx_Zqof l1 i1 h1 hA, vx_Zqof l2 i1 h2 hA, ⟨q, vk_R.of h4 hq⟩, fun w hw => va_Nw.of (bx_ot w hw) (hts w (ew_b w hw))⟩
theorem d_law630 : decode code 630 = .ok (.invokestatic 80, 3) := by decide +kernel
section LWP
variable {p : Program} {l : Launch} {e : Env} {s : State} {m : MethodId} {below : List Frame} {meth : Method} {c : Code} {b L : Nat} {xs : Nat → Int32} {sa : Nat → Nat} {cy : Nat → ClassId} {dC : Nat → ClassId} {dI : Nat → Nat → Nat} {sc : List Int32} {cells slots : Nat}
theorem lw_st (C0 : lw_At p s m meth c b L xs) (hI : Inv s.heap.size sa cy dC dI (some sc) s) (hcc : cells ≤ 601024) (hss : slots ≤ 7293034) {pc pc' : Nat} {vs vs' : Lo} {st st' : List Value} {M M' : Mem} (k : Nat) (h : gMany (some sc) 0 1000 12 0 mT250 k pc vs st M = some (pc', vs', st', M', 0, 0)) (kk : Wst p l e room_1 s m #[Value.ref b] below meth c (lw_Z below #[Value.ref b] s) s.heap.size sa cy dC dI 7 cells slots pc' vs' st' M') : Wst p l e room_1 s m #[Value.ref b] below meth c (lw_Z below #[Value.ref b] s) s.heap.size sa cy dC dI 7 cells slots pc vs st M :=
  many_ok (n := 0) (lib_ok l s.heap.size sa cy dC dI (some sc)) (law_ctx C0 hI) law_tab k h hcc hss kk
theorem lw_ld (C0 : lw_At p s m meth c b L xs) (hI : Inv s.heap.size sa cy dC dI (some sc) s) (hcc : cells ≤ 601024) (hss : slots ≤ 7293034) {pc pc5 pc6 : Nat} {vs : Lo} {st : List Value} {M : Mem} {j x : Int32} (h4 : gMany (some sc) 0 1000 12 0 mT250 4 pc vs st M = some (pc5, vs, .int j :: .retAddr 0 :: st, M, 0, 0)) (h5 : gLook mT250 pc5 = some (3, .iaload)) (e6 : pc5 + 1 = pc6) (hx : gAt sc j = some x) (kk : Wst p l e room_1 s m #[Value.ref b] below meth c (lw_Z below #[Value.ref b] s) s.heap.size sa cy dC dI 7 cells slots pc6 vs (.int x :: st) M) : Wst p l e room_1 s m #[Value.ref b] below meth c (lw_Z below #[Value.ref b] s) s.heap.size sa cy dC dI 7 cells slots pc vs st M := by
  subst e6
  refine lw_st C0 hI hcc hss 4 h4 ?_
  exact one_ok (n := 0) (lib_ok l s.heap.size sa cy dC dI (some sc)) (law_ctx C0 hI) law_tab (one_g h5 (Or.inl rfl) (sc_c hx)) hcc hss kk
theorem lw_cal (C0 : lw_At p s m meth c b L xs) (hI : Inv s.heap.size sa cy dC dI (some sc) s) (hcc : cells ≤ 601024) (hss : slots ≤ 7293034) {id ix pc pc3 : Nat} {vs ls0 : Lo} {st rest : List Value} {M : Mem} {Q : Option Value → Mem → Prop} (h : ∃ v M', Ev none 999 id 0 ls0 [] M v M' 0 0 ∧ Q v M') (hl : gLook mT250 pc = some (7, .invokevirtual ix)) (hc : gCal (.invokevirtual ix) 12 st M = some (.inr (id, ls0, rest))) (e3 : pc + 3 = pc3) (kk : ∀ v M', Q v M' → Wst p l e room_1 s m #[Value.ref b] below meth c (lw_Z below #[Value.ref b] s) s.heap.size sa cy dC dI 7 cells slots pc3 vs (v.toList ++ rest) M') : Wst p l e room_1 s m #[Value.ref b] below meth c (lw_Z below #[Value.ref b] s) s.heap.size sa cy dC dI 7 cells slots pc vs st M := by
  subst e3
  obtain ⟨v, M', h1, h2⟩ := h
  obtain ⟨n, h1⟩ := h1.any (some sc)
  exact one_ok (n := n) (lib_ok l s.heap.size sa cy dC dI (some sc)) (law_ctx C0 hI) law_tab (one_call hl hc h1) hcc hss (kk v M' h2)
set_option maxRecDepth 200000 in
set_option maxHeartbeats 4000000 in
theorem lc_0 (C0 : lw_At p s m meth c b L xs) (hI : Inv s.heap.size sa cy dC dI (some sc) s) (hcc : cells ≤ 601024) (hss : slots ≤ 7293034) {i : Int32} {kk bb : Option Value} {M : Mem} (hS : SV7 M) (hx : SX sc i) (k : ∀ M' kk' bb' cells' slots', SV7 M' → cells' ≤ cells + 1 → slots' ≤ slots + 6 → Wst p l e room_1 s m #[Value.ref b] below meth c (lw_Z below #[Value.ref b] s) s.heap.size sa cy dC dI 7 cells' slots' 1324 [some (.retAddr 0), some (.ref 0), some (.ref 633), some (.ref 663), some (.int i), kk', bb'] [] M') : Wst p l e room_1 s m #[Value.ref b] below meth c (lw_Z below #[Value.ref b] s) s.heap.size sa cy dC dI 7 cells slots 196 [some (.retAddr 0), some (.ref 0), some (.ref 633), some (.ref 663), some (.int i), kk, bb] [] M := by
  obtain ⟨⟨x1, h1⟩, ⟨x2, h2⟩, ⟨x3, h3⟩, ⟨x4, h4⟩, x5, h5⟩ := hx
  have hV0 := hS.six.1
  obtain ⟨r1, M1, M2, hE1, hE2, hV1, hS2⟩ := pj_0 (x1 := x1) (x2 := x2) (x3 := x3) (x4 := x4) (x5 := x5) hS
  refine lw_st C0 hI hcc hss 1 (pc' := 197) (vs' := [some (.retAddr 0), some (.ref 0), some (.ref 633), some (.ref 663), some (.int i), kk, bb]) (st' := [.ref 0]) (M' := M) rfl ?_
  refine lw_ld C0 hI hcc hss (pc5 := 202) (pc6 := 203) (j := i + 1) (st := [.ref 0]) rfl rfl rfl h1 ?_
  refine lw_ld C0 hI hcc hss (pc5 := 208) (pc6 := 209) (j := i + 2) (st := [.int x1, .ref 0]) rfl rfl rfl h2 ?_
  refine lw_ld C0 hI hcc hss (pc5 := 214) (pc6 := 215) (j := i + 3) (st := [.int x2, .int x1, .ref 0]) rfl rfl rfl h3 ?_
  refine lw_ld C0 hI hcc hss (pc5 := 220) (pc6 := 221) (j := i + 4) (st := [.int x3, .int x2, .int x1, .ref 0]) rfl rfl rfl h4 ?_
  refine lw_ld C0 hI hcc hss (pc5 := 226) (pc6 := 227) (j := i + 5) (st := [.int x4, .int x3, .int x2, .int x1, .ref 0]) rfl rfl rfl h5 ?_
  refine lw_cal C0 hI hcc hss (pc3 := 230) (rest := []) (Q := fun v M' => v = some (.int r1) ∧ M1 = M') ⟨_, _, hE1, rfl, rfl⟩ rfl (cl_19 hV0.r0 rfl) rfl ?_
  rintro v M9 ⟨rfl, rfl⟩
  refine lw_st C0 hI hcc hss 1 (pc' := 231) (vs' := [some (.retAddr 0), some (.ref 0), some (.ref 633), some (.ref 663), some (.int i), kk, bb]) (st' := []) (M' := M1) rfl ?_
  refine lw_st C0 hI hcc hss 1 (pc' := 232) (vs' := [some (.retAddr 0), some (.ref 0), some (.ref 633), some (.ref 663), some (.int i), kk, bb]) (st' := [.ref 633]) (M' := M1) rfl ?_
  refine lw_ld C0 hI hcc hss (pc5 := 237) (pc6 := 238) (j := i + 1) (st := [.ref 633]) rfl rfl rfl h1 ?_
  refine lw_ld C0 hI hcc hss (pc5 := 243) (pc6 := 244) (j := i + 2) (st := [.int x1, .ref 633]) rfl rfl rfl h2 ?_
  refine lw_ld C0 hI hcc hss (pc5 := 249) (pc6 := 250) (j := i + 3) (st := [.int x2, .int x1, .ref 633]) rfl rfl rfl h3 ?_
  refine lw_ld C0 hI hcc hss (pc5 := 255) (pc6 := 256) (j := i + 4) (st := [.int x3, .int x2, .int x1, .ref 633]) rfl rfl rfl h4 ?_
  refine lw_ld C0 hI hcc hss (pc5 := 261) (pc6 := 262) (j := i + 5) (st := [.int x4, .int x3, .int x2, .int x1, .ref 633]) rfl rfl rfl h5 ?_
  refine lw_cal C0 hI hcc hss (pc3 := 265) (rest := []) (Q := fun v M' => v = some (.int r1) ∧ M2 = M') ⟨_, _, hE2, rfl, rfl⟩ rfl (cl_23 hV1.r633 rfl) rfl ?_
  rintro v M9 ⟨rfl, rfl⟩
  refine lw_st C0 hI hcc hss 1 (pc' := 266) (vs' := [some (.retAddr 0), some (.ref 0), some (.ref 633), some (.ref 663), some (.int i), kk, bb]) (st' := []) (M' := M2) rfl ?_
  refine lw_st C0 hI hcc hss 1 (pc' := 1324) (vs' := [some (.retAddr 0), some (.ref 0), some (.ref 633), some (.ref 663), some (.int i), kk, bb]) (st' := []) (M' := M2) rfl ?_
  exact k M2 kk bb cells slots hS2 (Nat.le_succ _) (Nat.le_add_right _ _)
set_option maxRecDepth 200000 in
set_option maxHeartbeats 4000000 in
theorem lc_1 (C0 : lw_At p s m meth c b L xs) (hI : Inv s.heap.size sa cy dC dI (some sc) s) (hcc : cells ≤ 601024) (hss : slots ≤ 7293034) {i : Int32} {kk bb : Option Value} {M : Mem} (hS : SV7 M) (hx : SX sc i) (k : ∀ M' kk' bb' cells' slots', SV7 M' → cells' ≤ cells + 1 → slots' ≤ slots + 6 → Wst p l e room_1 s m #[Value.ref b] below meth c (lw_Z below #[Value.ref b] s) s.heap.size sa cy dC dI 7 cells' slots' 1324 [some (.retAddr 0), some (.ref 0), some (.ref 633), some (.ref 663), some (.int i), kk', bb'] [] M') : Wst p l e room_1 s m #[Value.ref b] below meth c (lw_Z below #[Value.ref b] s) s.heap.size sa cy dC dI 7 cells slots 269 [some (.retAddr 0), some (.ref 0), some (.ref 633), some (.ref 663), some (.int i), kk, bb] [] M := by
  obtain ⟨⟨x1, h1⟩, ⟨x2, h2⟩, ⟨x3, h3⟩, ⟨x4, h4⟩, x5, h5⟩ := hx
  have hV0 := hS.six.1
  obtain ⟨r1, M1, M2, hE1, hE2, hV1, hS2⟩ := pj_1 (x1 := x1) hS
  refine lw_st C0 hI hcc hss 1 (pc' := 270) (vs' := [some (.retAddr 0), some (.ref 0), some (.ref 633), some (.ref 663), some (.int i), kk, bb]) (st' := [.ref 0]) (M' := M) rfl ?_
  refine lw_ld C0 hI hcc hss (pc5 := 275) (pc6 := 276) (j := i + 1) (st := [.ref 0]) rfl rfl rfl h1 ?_
  refine lw_cal C0 hI hcc hss (pc3 := 279) (rest := []) (Q := fun v M' => v = some (.int r1) ∧ M1 = M') ⟨_, _, hE1, rfl, rfl⟩ rfl (cl_24 hV0.r0 rfl) rfl ?_
  rintro v M9 ⟨rfl, rfl⟩
  refine lw_st C0 hI hcc hss 1 (pc' := 280) (vs' := [some (.retAddr 0), some (.ref 0), some (.ref 633), some (.ref 663), some (.int i), kk, bb]) (st' := []) (M' := M1) rfl ?_
  refine lw_st C0 hI hcc hss 1 (pc' := 281) (vs' := [some (.retAddr 0), some (.ref 0), some (.ref 633), some (.ref 663), some (.int i), kk, bb]) (st' := [.ref 633]) (M' := M1) rfl ?_
  refine lw_ld C0 hI hcc hss (pc5 := 286) (pc6 := 287) (j := i + 1) (st := [.ref 633]) rfl rfl rfl h1 ?_
  refine lw_cal C0 hI hcc hss (pc3 := 290) (rest := []) (Q := fun v M' => v = some (.int r1) ∧ M2 = M') ⟨_, _, hE2, rfl, rfl⟩ rfl (cl_28 hV1.r633 rfl) rfl ?_
  rintro v M9 ⟨rfl, rfl⟩
  refine lw_st C0 hI hcc hss 1 (pc' := 291) (vs' := [some (.retAddr 0), some (.ref 0), some (.ref 633), some (.ref 663), some (.int i), kk, bb]) (st' := []) (M' := M2) rfl ?_
  refine lw_st C0 hI hcc hss 1 (pc' := 1324) (vs' := [some (.retAddr 0), some (.ref 0), some (.ref 633), some (.ref 663), some (.int i), kk, bb]) (st' := []) (M' := M2) rfl ?_
  exact k M2 kk bb cells slots hS2 (Nat.le_succ _) (Nat.le_add_right _ _)
set_option maxRecDepth 200000 in
set_option maxHeartbeats 4000000 in
theorem lc_2 (C0 : lw_At p s m meth c b L xs) (hI : Inv s.heap.size sa cy dC dI (some sc) s) (hcc : cells ≤ 601024) (hss : slots ≤ 7293034) {i : Int32} {kk bb : Option Value} {M : Mem} (hS : SV7 M) (hx : SX sc i) (k : ∀ M' kk' bb' cells' slots', SV7 M' → cells' ≤ cells + 1 → slots' ≤ slots + 6 → Wst p l e room_1 s m #[Value.ref b] below meth c (lw_Z below #[Value.ref b] s) s.heap.size sa cy dC dI 7 cells' slots' 1324 [some (.retAddr 0), some (.ref 0), some (.ref 633), some (.ref 663), some (.int i), kk', bb'] [] M') : Wst p l e room_1 s m #[Value.ref b] below meth c (lw_Z below #[Value.ref b] s) s.heap.size sa cy dC dI 7 cells slots 294 [some (.retAddr 0), some (.ref 0), some (.ref 633), some (.ref 663), some (.int i), kk, bb] [] M := by
  obtain ⟨⟨x1, h1⟩, ⟨x2, h2⟩, ⟨x3, h3⟩, ⟨x4, h4⟩, x5, h5⟩ := hx
  have hV0 := hS.six.1
  obtain ⟨r1, M1, M2, hE1, hE2, hV1, hS2⟩ := pj_2 (x1 := x1) (x2 := x2) hS
  refine lw_st C0 hI hcc hss 1 (pc' := 295) (vs' := [some (.retAddr 0), some (.ref 0), some (.ref 633), some (.ref 663), some (.int i), kk, bb]) (st' := [.ref 0]) (M' := M) rfl ?_
  refine lw_ld C0 hI hcc hss (pc5 := 300) (pc6 := 301) (j := i + 1) (st := [.ref 0]) rfl rfl rfl h1 ?_
  refine lw_ld C0 hI hcc hss (pc5 := 306) (pc6 := 307) (j := i + 2) (st := [.int x1, .ref 0]) rfl rfl rfl h2 ?_
  refine lw_cal C0 hI hcc hss (pc3 := 310) (rest := []) (Q := fun v M' => v = some (.int r1) ∧ M1 = M') ⟨_, _, hE1, rfl, rfl⟩ rfl (cl_29 hV0.r0 rfl) rfl ?_
  rintro v M9 ⟨rfl, rfl⟩
  refine lw_st C0 hI hcc hss 1 (pc' := 311) (vs' := [some (.retAddr 0), some (.ref 0), some (.ref 633), some (.ref 663), some (.int i), kk, bb]) (st' := []) (M' := M1) rfl ?_
  refine lw_st C0 hI hcc hss 1 (pc' := 312) (vs' := [some (.retAddr 0), some (.ref 0), some (.ref 633), some (.ref 663), some (.int i), kk, bb]) (st' := [.ref 633]) (M' := M1) rfl ?_
  refine lw_ld C0 hI hcc hss (pc5 := 317) (pc6 := 318) (j := i + 1) (st := [.ref 633]) rfl rfl rfl h1 ?_
  refine lw_ld C0 hI hcc hss (pc5 := 323) (pc6 := 324) (j := i + 2) (st := [.int x1, .ref 633]) rfl rfl rfl h2 ?_
  refine lw_cal C0 hI hcc hss (pc3 := 327) (rest := []) (Q := fun v M' => v = some (.int r1) ∧ M2 = M') ⟨_, _, hE2, rfl, rfl⟩ rfl (cl_33 hV1.r633 rfl) rfl ?_
  rintro v M9 ⟨rfl, rfl⟩
  refine lw_st C0 hI hcc hss 1 (pc' := 328) (vs' := [some (.retAddr 0), some (.ref 0), some (.ref 633), some (.ref 663), some (.int i), kk, bb]) (st' := []) (M' := M2) rfl ?_
  refine lw_st C0 hI hcc hss 1 (pc' := 1324) (vs' := [some (.retAddr 0), some (.ref 0), some (.ref 633), some (.ref 663), some (.int i), kk, bb]) (st' := []) (M' := M2) rfl ?_
  exact k M2 kk bb cells slots hS2 (Nat.le_succ _) (Nat.le_add_right _ _)
set_option maxRecDepth 200000 in
set_option maxHeartbeats 4000000 in
theorem lc_3 (C0 : lw_At p s m meth c b L xs) (hI : Inv s.heap.size sa cy dC dI (some sc) s) (hcc : cells ≤ 601024) (hss : slots ≤ 7293034) {i : Int32} {kk bb : Option Value} {M : Mem} (hS : SV7 M) (hx : SX sc i) (k : ∀ M' kk' bb' cells' slots', SV7 M' → cells' ≤ cells + 1 → slots' ≤ slots + 6 → Wst p l e room_1 s m #[Value.ref b] below meth c (lw_Z below #[Value.ref b] s) s.heap.size sa cy dC dI 7 cells' slots' 1324 [some (.retAddr 0), some (.ref 0), some (.ref 633), some (.ref 663), some (.int i), kk', bb'] [] M') : Wst p l e room_1 s m #[Value.ref b] below meth c (lw_Z below #[Value.ref b] s) s.heap.size sa cy dC dI 7 cells slots 331 [some (.retAddr 0), some (.ref 0), some (.ref 633), some (.ref 663), some (.int i), kk, bb] [] M := by
  obtain ⟨⟨x1, h1⟩, ⟨x2, h2⟩, ⟨x3, h3⟩, ⟨x4, h4⟩, x5, h5⟩ := hx
  have hV0 := hS.six.1
  obtain ⟨r1, M1, M2, hE1, hE2, hV1, hS2⟩ := pj_3 (x1 := x1) hS
  refine lw_st C0 hI hcc hss 1 (pc' := 332) (vs' := [some (.retAddr 0), some (.ref 0), some (.ref 633), some (.ref 663), some (.int i), kk, bb]) (st' := [.ref 0]) (M' := M) rfl ?_
  refine lw_ld C0 hI hcc hss (pc5 := 337) (pc6 := 338) (j := i + 1) (st := [.ref 0]) rfl rfl rfl h1 ?_
  refine lw_cal C0 hI hcc hss (pc3 := 341) (rest := []) (Q := fun v M' => v = some (.int r1) ∧ M1 = M') ⟨_, _, hE1, rfl, rfl⟩ rfl (cl_34 hV0.r0 rfl) rfl ?_
  rintro v M9 ⟨rfl, rfl⟩
  refine lw_st C0 hI hcc hss 1 (pc' := 342) (vs' := [some (.retAddr 0), some (.ref 0), some (.ref 633), some (.ref 663), some (.int i), kk, bb]) (st' := []) (M' := M1) rfl ?_
  refine lw_st C0 hI hcc hss 1 (pc' := 343) (vs' := [some (.retAddr 0), some (.ref 0), some (.ref 633), some (.ref 663), some (.int i), kk, bb]) (st' := [.ref 633]) (M' := M1) rfl ?_
  refine lw_ld C0 hI hcc hss (pc5 := 348) (pc6 := 349) (j := i + 1) (st := [.ref 633]) rfl rfl rfl h1 ?_
  refine lw_cal C0 hI hcc hss (pc3 := 352) (rest := []) (Q := fun v M' => v = some (.int r1) ∧ M2 = M') ⟨_, _, hE2, rfl, rfl⟩ rfl (cl_38 hV1.r633 rfl) rfl ?_
  rintro v M9 ⟨rfl, rfl⟩
  refine lw_st C0 hI hcc hss 1 (pc' := 353) (vs' := [some (.retAddr 0), some (.ref 0), some (.ref 633), some (.ref 663), some (.int i), kk, bb]) (st' := []) (M' := M2) rfl ?_
  refine lw_st C0 hI hcc hss 1 (pc' := 1324) (vs' := [some (.retAddr 0), some (.ref 0), some (.ref 633), some (.ref 663), some (.int i), kk, bb]) (st' := []) (M' := M2) rfl ?_
  exact k M2 kk bb cells slots hS2 (Nat.le_succ _) (Nat.le_add_right _ _)
set_option maxRecDepth 200000 in
set_option maxHeartbeats 4000000 in
theorem lc_4 (C0 : lw_At p s m meth c b L xs) (hI : Inv s.heap.size sa cy dC dI (some sc) s) (hcc : cells ≤ 601024) (hss : slots ≤ 7293034) {i : Int32} {kk bb : Option Value} {M : Mem} (hS : SV7 M) (hx : SX sc i) (k : ∀ M' kk' bb' cells' slots', SV7 M' → cells' ≤ cells + 1 → slots' ≤ slots + 6 → Wst p l e room_1 s m #[Value.ref b] below meth c (lw_Z below #[Value.ref b] s) s.heap.size sa cy dC dI 7 cells' slots' 1324 [some (.retAddr 0), some (.ref 0), some (.ref 633), some (.ref 663), some (.int i), kk', bb'] [] M') : Wst p l e room_1 s m #[Value.ref b] below meth c (lw_Z below #[Value.ref b] s) s.heap.size sa cy dC dI 7 cells slots 356 [some (.retAddr 0), some (.ref 0), some (.ref 633), some (.ref 663), some (.int i), kk, bb] [] M := by
  obtain ⟨⟨x1, h1⟩, ⟨x2, h2⟩, ⟨x3, h3⟩, ⟨x4, h4⟩, x5, h5⟩ := hx
  have hV0 := hS.six.1
  obtain ⟨r1, M1, M2, hE1, hE2, hV1, hS2⟩ := pj_4 hS
  refine lw_st C0 hI hcc hss 1 (pc' := 357) (vs' := [some (.retAddr 0), some (.ref 0), some (.ref 633), some (.ref 663), some (.int i), kk, bb]) (st' := [.ref 0]) (M' := M) rfl ?_
  refine lw_cal C0 hI hcc hss (pc3 := 360) (rest := []) (Q := fun v M' => v = some (.int r1) ∧ M1 = M') ⟨_, _, hE1, rfl, rfl⟩ rfl (cl_39 hV0.r0 rfl) rfl ?_
  rintro v M9 ⟨rfl, rfl⟩
  refine lw_st C0 hI hcc hss 1 (pc' := 361) (vs' := [some (.retAddr 0), some (.ref 0), some (.ref 633), some (.ref 663), some (.int i), kk, bb]) (st' := []) (M' := M1) rfl ?_
  refine lw_st C0 hI hcc hss 1 (pc' := 362) (vs' := [some (.retAddr 0), some (.ref 0), some (.ref 633), some (.ref 663), some (.int i), kk, bb]) (st' := [.ref 633]) (M' := M1) rfl ?_
  refine lw_cal C0 hI hcc hss (pc3 := 365) (rest := []) (Q := fun v M' => v = some (.int r1) ∧ M2 = M') ⟨_, _, hE2, rfl, rfl⟩ rfl (cl_43 hV1.r633 rfl) rfl ?_
  rintro v M9 ⟨rfl, rfl⟩
  refine lw_st C0 hI hcc hss 1 (pc' := 366) (vs' := [some (.retAddr 0), some (.ref 0), some (.ref 633), some (.ref 663), some (.int i), kk, bb]) (st' := []) (M' := M2) rfl ?_
  refine lw_st C0 hI hcc hss 1 (pc' := 1324) (vs' := [some (.retAddr 0), some (.ref 0), some (.ref 633), some (.ref 663), some (.int i), kk, bb]) (st' := []) (M' := M2) rfl ?_
  exact k M2 kk bb cells slots hS2 (Nat.le_succ _) (Nat.le_add_right _ _)
set_option maxRecDepth 200000 in
set_option maxHeartbeats 4000000 in
theorem lc_5 (C0 : lw_At p s m meth c b L xs) (hI : Inv s.heap.size sa cy dC dI (some sc) s) (hcc : cells ≤ 601024) (hss : slots ≤ 7293034) {i : Int32} {kk bb : Option Value} {M : Mem} (hS : SV7 M) (hx : SX sc i) (k : ∀ M' kk' bb' cells' slots', SV7 M' → cells' ≤ cells + 1 → slots' ≤ slots + 6 → Wst p l e room_1 s m #[Value.ref b] below meth c (lw_Z below #[Value.ref b] s) s.heap.size sa cy dC dI 7 cells' slots' 1324 [some (.retAddr 0), some (.ref 0), some (.ref 633), some (.ref 663), some (.int i), kk', bb'] [] M') : Wst p l e room_1 s m #[Value.ref b] below meth c (lw_Z below #[Value.ref b] s) s.heap.size sa cy dC dI 7 cells slots 369 [some (.retAddr 0), some (.ref 0), some (.ref 633), some (.ref 663), some (.int i), kk, bb] [] M := by
  obtain ⟨⟨x1, h1⟩, ⟨x2, h2⟩, ⟨x3, h3⟩, ⟨x4, h4⟩, x5, h5⟩ := hx
  have hV0 := hS.six.1
  obtain ⟨r1, M1, M2, hE1, hE2, hV1, hS2⟩ := pj_5 (x1 := x1) hS
  refine lw_st C0 hI hcc hss 1 (pc' := 370) (vs' := [some (.retAddr 0), some (.ref 0), some (.ref 633), some (.ref 663), some (.int i), kk, bb]) (st' := [.ref 0]) (M' := M) rfl ?_
  refine lw_ld C0 hI hcc hss (pc5 := 375) (pc6 := 376) (j := i + 1) (st := [.ref 0]) rfl rfl rfl h1 ?_
  refine lw_cal C0 hI hcc hss (pc3 := 379) (rest := []) (Q := fun v M' => v = some (.int r1) ∧ M1 = M') ⟨_, _, hE1, rfl, rfl⟩ rfl (cl_44 hV0.r0 rfl) rfl ?_
  rintro v M9 ⟨rfl, rfl⟩
  refine lw_st C0 hI hcc hss 1 (pc' := 380) (vs' := [some (.retAddr 0), some (.ref 0), some (.ref 633), some (.ref 663), some (.int i), kk, bb]) (st' := []) (M' := M1) rfl ?_
  refine lw_st C0 hI hcc hss 1 (pc' := 381) (vs' := [some (.retAddr 0), some (.ref 0), some (.ref 633), some (.ref 663), some (.int i), kk, bb]) (st' := [.ref 633]) (M' := M1) rfl ?_
  refine lw_ld C0 hI hcc hss (pc5 := 386) (pc6 := 387) (j := i + 1) (st := [.ref 633]) rfl rfl rfl h1 ?_
  refine lw_cal C0 hI hcc hss (pc3 := 390) (rest := []) (Q := fun v M' => v = some (.int r1) ∧ M2 = M') ⟨_, _, hE2, rfl, rfl⟩ rfl (cl_47 hV1.r633 rfl) rfl ?_
  rintro v M9 ⟨rfl, rfl⟩
  refine lw_st C0 hI hcc hss 1 (pc' := 391) (vs' := [some (.retAddr 0), some (.ref 0), some (.ref 633), some (.ref 663), some (.int i), kk, bb]) (st' := []) (M' := M2) rfl ?_
  refine lw_st C0 hI hcc hss 1 (pc' := 1324) (vs' := [some (.retAddr 0), some (.ref 0), some (.ref 633), some (.ref 663), some (.int i), kk, bb]) (st' := []) (M' := M2) rfl ?_
  exact k M2 kk bb cells slots hS2 (Nat.le_succ _) (Nat.le_add_right _ _)
set_option maxRecDepth 200000 in
set_option maxHeartbeats 4000000 in
theorem lc_6 (C0 : lw_At p s m meth c b L xs) (hI : Inv s.heap.size sa cy dC dI (some sc) s) (hcc : cells ≤ 601024) (hss : slots ≤ 7293034) {i : Int32} {kk bb : Option Value} {M : Mem} (hS : SV7 M) (hx : SX sc i) (k : ∀ M' kk' bb' cells' slots', SV7 M' → cells' ≤ cells + 1 → slots' ≤ slots + 6 → Wst p l e room_1 s m #[Value.ref b] below meth c (lw_Z below #[Value.ref b] s) s.heap.size sa cy dC dI 7 cells' slots' 1324 [some (.retAddr 0), some (.ref 0), some (.ref 633), some (.ref 663), some (.int i), kk', bb'] [] M') : Wst p l e room_1 s m #[Value.ref b] below meth c (lw_Z below #[Value.ref b] s) s.heap.size sa cy dC dI 7 cells slots 394 [some (.retAddr 0), some (.ref 0), some (.ref 633), some (.ref 663), some (.int i), kk, bb] [] M := by
  obtain ⟨⟨x1, h1⟩, ⟨x2, h2⟩, ⟨x3, h3⟩, ⟨x4, h4⟩, x5, h5⟩ := hx
  have hV0 := hS.six.1
  obtain ⟨r1, M1, M2, hE1, hE2, hV1, hS2⟩ := pj_6 hS
  refine lw_st C0 hI hcc hss 1 (pc' := 395) (vs' := [some (.retAddr 0), some (.ref 0), some (.ref 633), some (.ref 663), some (.int i), kk, bb]) (st' := [.ref 0]) (M' := M) rfl ?_
  refine lw_cal C0 hI hcc hss (pc3 := 398) (rest := []) (Q := fun v M' => v = some (.int r1) ∧ M1 = M') ⟨_, _, hE1, rfl, rfl⟩ rfl (cl_48 hV0.r0 rfl) rfl ?_
  rintro v M9 ⟨rfl, rfl⟩
  refine lw_st C0 hI hcc hss 1 (pc' := 399) (vs' := [some (.retAddr 0), some (.ref 0), some (.ref 633), some (.ref 663), some (.int i), kk, bb]) (st' := []) (M' := M1) rfl ?_
  refine lw_st C0 hI hcc hss 1 (pc' := 400) (vs' := [some (.retAddr 0), some (.ref 0), some (.ref 633), some (.ref 663), some (.int i), kk, bb]) (st' := [.ref 633]) (M' := M1) rfl ?_
  refine lw_cal C0 hI hcc hss (pc3 := 403) (rest := []) (Q := fun v M' => v = some (.int r1) ∧ M2 = M') ⟨_, _, hE2, rfl, rfl⟩ rfl (cl_51 hV1.r633 rfl) rfl ?_
  rintro v M9 ⟨rfl, rfl⟩
  refine lw_st C0 hI hcc hss 1 (pc' := 404) (vs' := [some (.retAddr 0), some (.ref 0), some (.ref 633), some (.ref 663), some (.int i), kk, bb]) (st' := []) (M' := M2) rfl ?_
  refine lw_st C0 hI hcc hss 1 (pc' := 1324) (vs' := [some (.retAddr 0), some (.ref 0), some (.ref 633), some (.ref 663), some (.int i), kk, bb]) (st' := []) (M' := M2) rfl ?_
  exact k M2 kk bb cells slots hS2 (Nat.le_succ _) (Nat.le_add_right _ _)
set_option maxRecDepth 200000 in
set_option maxHeartbeats 4000000 in
theorem lc_7 (C0 : lw_At p s m meth c b L xs) (hI : Inv s.heap.size sa cy dC dI (some sc) s) (hcc : cells ≤ 601024) (hss : slots ≤ 7293034) {i : Int32} {kk bb : Option Value} {M : Mem} (hS : SV7 M) (hx : SX sc i) (k : ∀ M' kk' bb' cells' slots', SV7 M' → cells' ≤ cells + 1 → slots' ≤ slots + 6 → Wst p l e room_1 s m #[Value.ref b] below meth c (lw_Z below #[Value.ref b] s) s.heap.size sa cy dC dI 7 cells' slots' 1324 [some (.retAddr 0), some (.ref 0), some (.ref 633), some (.ref 663), some (.int i), kk', bb'] [] M') : Wst p l e room_1 s m #[Value.ref b] below meth c (lw_Z below #[Value.ref b] s) s.heap.size sa cy dC dI 7 cells slots 407 [some (.retAddr 0), some (.ref 0), some (.ref 633), some (.ref 663), some (.int i), kk, bb] [] M := by
  obtain ⟨⟨x1, h1⟩, ⟨x2, h2⟩, ⟨x3, h3⟩, ⟨x4, h4⟩, x5, h5⟩ := hx
  have hV0 := hS.six.1
  obtain ⟨r1, M1, M2, hE1, hE2, hV1, hS2⟩ := pj_7 (x1 := x1) (x2 := x2) (x3 := x3) (x4 := x4) (x5 := x5) hS
  refine lw_st C0 hI hcc hss 1 (pc' := 408) (vs' := [some (.retAddr 0), some (.ref 0), some (.ref 633), some (.ref 663), some (.int i), kk, bb]) (st' := [.ref 0]) (M' := M) rfl ?_
  refine lw_ld C0 hI hcc hss (pc5 := 413) (pc6 := 414) (j := i + 1) (st := [.ref 0]) rfl rfl rfl h1 ?_
  refine lw_ld C0 hI hcc hss (pc5 := 419) (pc6 := 420) (j := i + 2) (st := [.int x1, .ref 0]) rfl rfl rfl h2 ?_
  refine lw_ld C0 hI hcc hss (pc5 := 425) (pc6 := 426) (j := i + 3) (st := [.int x2, .int x1, .ref 0]) rfl rfl rfl h3 ?_
  refine lw_ld C0 hI hcc hss (pc5 := 431) (pc6 := 432) (j := i + 4) (st := [.int x3, .int x2, .int x1, .ref 0]) rfl rfl rfl h4 ?_
  refine lw_ld C0 hI hcc hss (pc5 := 437) (pc6 := 438) (j := i + 5) (st := [.int x4, .int x3, .int x2, .int x1, .ref 0]) rfl rfl rfl h5 ?_
  refine lw_cal C0 hI hcc hss (pc3 := 441) (rest := []) (Q := fun v M' => v = some (.int r1) ∧ M1 = M') ⟨_, _, hE1, rfl, rfl⟩ rfl (cl_52 hV0.r0 rfl) rfl ?_
  rintro v M9 ⟨rfl, rfl⟩
  refine lw_st C0 hI hcc hss 1 (pc' := 442) (vs' := [some (.retAddr 0), some (.ref 0), some (.ref 633), some (.ref 663), some (.int i), kk, bb]) (st' := []) (M' := M1) rfl ?_
  refine lw_st C0 hI hcc hss 1 (pc' := 443) (vs' := [some (.retAddr 0), some (.ref 0), some (.ref 633), some (.ref 663), some (.int i), kk, bb]) (st' := [.ref 633]) (M' := M1) rfl ?_
  refine lw_ld C0 hI hcc hss (pc5 := 448) (pc6 := 449) (j := i + 1) (st := [.ref 633]) rfl rfl rfl h1 ?_
  refine lw_ld C0 hI hcc hss (pc5 := 454) (pc6 := 455) (j := i + 2) (st := [.int x1, .ref 633]) rfl rfl rfl h2 ?_
  refine lw_ld C0 hI hcc hss (pc5 := 460) (pc6 := 461) (j := i + 3) (st := [.int x2, .int x1, .ref 633]) rfl rfl rfl h3 ?_
  refine lw_ld C0 hI hcc hss (pc5 := 466) (pc6 := 467) (j := i + 4) (st := [.int x3, .int x2, .int x1, .ref 633]) rfl rfl rfl h4 ?_
  refine lw_ld C0 hI hcc hss (pc5 := 472) (pc6 := 473) (j := i + 5) (st := [.int x4, .int x3, .int x2, .int x1, .ref 633]) rfl rfl rfl h5 ?_
  refine lw_cal C0 hI hcc hss (pc3 := 476) (rest := []) (Q := fun v M' => v = some (.int r1) ∧ M2 = M') ⟨_, _, hE2, rfl, rfl⟩ rfl (cl_55 hV1.r633 rfl) rfl ?_
  rintro v M9 ⟨rfl, rfl⟩
  refine lw_st C0 hI hcc hss 1 (pc' := 477) (vs' := [some (.retAddr 0), some (.ref 0), some (.ref 633), some (.ref 663), some (.int i), kk, bb]) (st' := []) (M' := M2) rfl ?_
  refine lw_st C0 hI hcc hss 1 (pc' := 1324) (vs' := [some (.retAddr 0), some (.ref 0), some (.ref 633), some (.ref 663), some (.int i), kk, bb]) (st' := []) (M' := M2) rfl ?_
  exact k M2 kk bb cells slots hS2 (Nat.le_succ _) (Nat.le_add_right _ _)
set_option maxRecDepth 200000 in
set_option maxHeartbeats 4000000 in
theorem lc_8 (C0 : lw_At p s m meth c b L xs) (hI : Inv s.heap.size sa cy dC dI (some sc) s) (hcc : cells ≤ 601024) (hss : slots ≤ 7293034) {i : Int32} {kk bb : Option Value} {M : Mem} (hS : SV7 M) (hx : SX sc i) (k : ∀ M' kk' bb' cells' slots', SV7 M' → cells' ≤ cells + 1 → slots' ≤ slots + 6 → Wst p l e room_1 s m #[Value.ref b] below meth c (lw_Z below #[Value.ref b] s) s.heap.size sa cy dC dI 7 cells' slots' 1324 [some (.retAddr 0), some (.ref 0), some (.ref 633), some (.ref 663), some (.int i), kk', bb'] [] M') : Wst p l e room_1 s m #[Value.ref b] below meth c (lw_Z below #[Value.ref b] s) s.heap.size sa cy dC dI 7 cells slots 480 [some (.retAddr 0), some (.ref 0), some (.ref 633), some (.ref 663), some (.int i), kk, bb] [] M := by
  obtain ⟨⟨x1, h1⟩, ⟨x2, h2⟩, ⟨x3, h3⟩, ⟨x4, h4⟩, x5, h5⟩ := hx
  have hV0 := hS.six.1
  obtain ⟨r1, M1, M2, hE1, hE2, hV1, hS2⟩ := pj_8 (x1 := x1) hS
  refine lw_st C0 hI hcc hss 1 (pc' := 481) (vs' := [some (.retAddr 0), some (.ref 0), some (.ref 633), some (.ref 663), some (.int i), kk, bb]) (st' := [.ref 0]) (M' := M) rfl ?_
  refine lw_ld C0 hI hcc hss (pc5 := 486) (pc6 := 487) (j := i + 1) (st := [.ref 0]) rfl rfl rfl h1 ?_
  refine lw_cal C0 hI hcc hss (pc3 := 490) (rest := []) (Q := fun v M' => v = some (.int r1) ∧ M1 = M') ⟨_, _, hE1, rfl, rfl⟩ rfl (cl_56 hV0.r0 rfl) rfl ?_
  rintro v M9 ⟨rfl, rfl⟩
  refine lw_st C0 hI hcc hss 1 (pc' := 491) (vs' := [some (.retAddr 0), some (.ref 0), some (.ref 633), some (.ref 663), some (.int i), kk, bb]) (st' := []) (M' := M1) rfl ?_
  refine lw_st C0 hI hcc hss 1 (pc' := 492) (vs' := [some (.retAddr 0), some (.ref 0), some (.ref 633), some (.ref 663), some (.int i), kk, bb]) (st' := [.ref 633]) (M' := M1) rfl ?_
  refine lw_ld C0 hI hcc hss (pc5 := 497) (pc6 := 498) (j := i + 1) (st := [.ref 633]) rfl rfl rfl h1 ?_
  refine lw_cal C0 hI hcc hss (pc3 := 501) (rest := []) (Q := fun v M' => v = some (.int r1) ∧ M2 = M') ⟨_, _, hE2, rfl, rfl⟩ rfl (cl_59 hV1.r633 rfl) rfl ?_
  rintro v M9 ⟨rfl, rfl⟩
  refine lw_st C0 hI hcc hss 1 (pc' := 502) (vs' := [some (.retAddr 0), some (.ref 0), some (.ref 633), some (.ref 663), some (.int i), kk, bb]) (st' := []) (M' := M2) rfl ?_
  refine lw_st C0 hI hcc hss 1 (pc' := 1324) (vs' := [some (.retAddr 0), some (.ref 0), some (.ref 633), some (.ref 663), some (.int i), kk, bb]) (st' := []) (M' := M2) rfl ?_
  exact k M2 kk bb cells slots hS2 (Nat.le_succ _) (Nat.le_add_right _ _)
set_option maxRecDepth 200000 in
set_option maxHeartbeats 4000000 in
theorem lc_9 (C0 : lw_At p s m meth c b L xs) (hI : Inv s.heap.size sa cy dC dI (some sc) s) (hcc : cells ≤ 601024) (hss : slots ≤ 7293034) {i : Int32} {kk bb : Option Value} {M : Mem} (hS : SV7 M) (hx : SX sc i) (k : ∀ M' kk' bb' cells' slots', SV7 M' → cells' ≤ cells + 1 → slots' ≤ slots + 6 → Wst p l e room_1 s m #[Value.ref b] below meth c (lw_Z below #[Value.ref b] s) s.heap.size sa cy dC dI 7 cells' slots' 1324 [some (.retAddr 0), some (.ref 0), some (.ref 633), some (.ref 663), some (.int i), kk', bb'] [] M') : Wst p l e room_1 s m #[Value.ref b] below meth c (lw_Z below #[Value.ref b] s) s.heap.size sa cy dC dI 7 cells slots 505 [some (.retAddr 0), some (.ref 0), some (.ref 633), some (.ref 663), some (.int i), kk, bb] [] M := by
  obtain ⟨⟨x1, h1⟩, ⟨x2, h2⟩, ⟨x3, h3⟩, ⟨x4, h4⟩, x5, h5⟩ := hx
  have hV0 := hS.six.1
  obtain ⟨r1, M1, M2, hE1, hE2, hV1, hS2⟩ := pj_9 (x1 := x1) hS
  refine lw_st C0 hI hcc hss 1 (pc' := 506) (vs' := [some (.retAddr 0), some (.ref 0), some (.ref 633), some (.ref 663), some (.int i), kk, bb]) (st' := [.ref 0]) (M' := M) rfl ?_
  refine lw_ld C0 hI hcc hss (pc5 := 511) (pc6 := 512) (j := i + 1) (st := [.ref 0]) rfl rfl rfl h1 ?_
  refine lw_cal C0 hI hcc hss (pc3 := 515) (rest := []) (Q := fun v M' => v = some (.int r1) ∧ M1 = M') ⟨_, _, hE1, rfl, rfl⟩ rfl (cl_60 hV0.r0 rfl) rfl ?_
  rintro v M9 ⟨rfl, rfl⟩
  refine lw_st C0 hI hcc hss 1 (pc' := 516) (vs' := [some (.retAddr 0), some (.ref 0), some (.ref 633), some (.ref 663), some (.int i), kk, bb]) (st' := []) (M' := M1) rfl ?_
  refine lw_st C0 hI hcc hss 1 (pc' := 517) (vs' := [some (.retAddr 0), some (.ref 0), some (.ref 633), some (.ref 663), some (.int i), kk, bb]) (st' := [.ref 633]) (M' := M1) rfl ?_
  refine lw_ld C0 hI hcc hss (pc5 := 522) (pc6 := 523) (j := i + 1) (st := [.ref 633]) rfl rfl rfl h1 ?_
  refine lw_cal C0 hI hcc hss (pc3 := 526) (rest := []) (Q := fun v M' => v = some (.int r1) ∧ M2 = M') ⟨_, _, hE2, rfl, rfl⟩ rfl (cl_63 hV1.r633 rfl) rfl ?_
  rintro v M9 ⟨rfl, rfl⟩
  refine lw_st C0 hI hcc hss 1 (pc' := 527) (vs' := [some (.retAddr 0), some (.ref 0), some (.ref 633), some (.ref 663), some (.int i), kk, bb]) (st' := []) (M' := M2) rfl ?_
  refine lw_st C0 hI hcc hss 1 (pc' := 1324) (vs' := [some (.retAddr 0), some (.ref 0), some (.ref 633), some (.ref 663), some (.int i), kk, bb]) (st' := []) (M' := M2) rfl ?_
  exact k M2 kk bb cells slots hS2 (Nat.le_succ _) (Nat.le_add_right _ _)
set_option maxRecDepth 200000 in
set_option maxHeartbeats 4000000 in
theorem lc_10 (C0 : lw_At p s m meth c b L xs) (hI : Inv s.heap.size sa cy dC dI (some sc) s) (hcc : cells ≤ 601024) (hss : slots ≤ 7293034) {i : Int32} {kk bb : Option Value} {M : Mem} (hS : SV7 M) (hx : SX sc i) (k : ∀ M' kk' bb' cells' slots', SV7 M' → cells' ≤ cells + 1 → slots' ≤ slots + 6 → Wst p l e room_1 s m #[Value.ref b] below meth c (lw_Z below #[Value.ref b] s) s.heap.size sa cy dC dI 7 cells' slots' 1324 [some (.retAddr 0), some (.ref 0), some (.ref 633), some (.ref 663), some (.int i), kk', bb'] [] M') : Wst p l e room_1 s m #[Value.ref b] below meth c (lw_Z below #[Value.ref b] s) s.heap.size sa cy dC dI 7 cells slots 530 [some (.retAddr 0), some (.ref 0), some (.ref 633), some (.ref 663), some (.int i), kk, bb] [] M := by
  obtain ⟨⟨x1, h1⟩, ⟨x2, h2⟩, ⟨x3, h3⟩, ⟨x4, h4⟩, x5, h5⟩ := hx
  have hV0 := hS.six.1
  obtain ⟨r1, M1, M2, hE1, hE2, hV1, hS2⟩ := pj_10 hS
  refine lw_st C0 hI hcc hss 1 (pc' := 531) (vs' := [some (.retAddr 0), some (.ref 0), some (.ref 633), some (.ref 663), some (.int i), kk, bb]) (st' := [.ref 0]) (M' := M) rfl ?_
  refine lw_cal C0 hI hcc hss (pc3 := 534) (rest := []) (Q := fun v M' => v = some (.int r1) ∧ M1 = M') ⟨_, _, hE1, rfl, rfl⟩ rfl (cl_64 hV0.r0 rfl) rfl ?_
  rintro v M9 ⟨rfl, rfl⟩
  refine lw_st C0 hI hcc hss 1 (pc' := 535) (vs' := [some (.retAddr 0), some (.ref 0), some (.ref 633), some (.ref 663), some (.int i), kk, bb]) (st' := []) (M' := M1) rfl ?_
  refine lw_st C0 hI hcc hss 1 (pc' := 536) (vs' := [some (.retAddr 0), some (.ref 0), some (.ref 633), some (.ref 663), some (.int i), kk, bb]) (st' := [.ref 633]) (M' := M1) rfl ?_
  refine lw_cal C0 hI hcc hss (pc3 := 539) (rest := []) (Q := fun v M' => v = some (.int r1) ∧ M2 = M') ⟨_, _, hE2, rfl, rfl⟩ rfl (cl_67 hV1.r633 rfl) rfl ?_
  rintro v M9 ⟨rfl, rfl⟩
  refine lw_st C0 hI hcc hss 1 (pc' := 540) (vs' := [some (.retAddr 0), some (.ref 0), some (.ref 633), some (.ref 663), some (.int i), kk, bb]) (st' := []) (M' := M2) rfl ?_
  refine lw_st C0 hI hcc hss 1 (pc' := 1324) (vs' := [some (.retAddr 0), some (.ref 0), some (.ref 633), some (.ref 663), some (.int i), kk, bb]) (st' := []) (M' := M2) rfl ?_
  exact k M2 kk bb cells slots hS2 (Nat.le_succ _) (Nat.le_add_right _ _)
set_option maxRecDepth 200000 in
set_option maxHeartbeats 4000000 in
theorem lc_11 (C0 : lw_At p s m meth c b L xs) (hI : Inv s.heap.size sa cy dC dI (some sc) s) (hcc : cells ≤ 601024) (hss : slots ≤ 7293034) {i : Int32} {kk bb : Option Value} {M : Mem} (hS : SV7 M) (hx : SX sc i) (k : ∀ M' kk' bb' cells' slots', SV7 M' → cells' ≤ cells + 1 → slots' ≤ slots + 6 → Wst p l e room_1 s m #[Value.ref b] below meth c (lw_Z below #[Value.ref b] s) s.heap.size sa cy dC dI 7 cells' slots' 1324 [some (.retAddr 0), some (.ref 0), some (.ref 633), some (.ref 663), some (.int i), kk', bb'] [] M') : Wst p l e room_1 s m #[Value.ref b] below meth c (lw_Z below #[Value.ref b] s) s.heap.size sa cy dC dI 7 cells slots 543 [some (.retAddr 0), some (.ref 0), some (.ref 633), some (.ref 663), some (.int i), kk, bb] [] M := by
  obtain ⟨⟨x1, h1⟩, ⟨x2, h2⟩, ⟨x3, h3⟩, ⟨x4, h4⟩, x5, h5⟩ := hx
  have hV0 := hS.six.1
  obtain ⟨r1, M1, M2, hE1, hE2, hV1, hS2⟩ := pj_11 (x1 := x1) hS
  refine lw_st C0 hI hcc hss 1 (pc' := 544) (vs' := [some (.retAddr 0), some (.ref 0), some (.ref 633), some (.ref 663), some (.int i), kk, bb]) (st' := [.ref 0]) (M' := M) rfl ?_
  refine lw_ld C0 hI hcc hss (pc5 := 549) (pc6 := 550) (j := i + 1) (st := [.ref 0]) rfl rfl rfl h1 ?_
  refine lw_cal C0 hI hcc hss (pc3 := 553) (rest := []) (Q := fun v M' => v = some (.int r1) ∧ M1 = M') ⟨_, _, hE1, rfl, rfl⟩ rfl (cl_68 hV0.r0 rfl) rfl ?_
  rintro v M9 ⟨rfl, rfl⟩
  refine lw_st C0 hI hcc hss 1 (pc' := 554) (vs' := [some (.retAddr 0), some (.ref 0), some (.ref 633), some (.ref 663), some (.int i), kk, bb]) (st' := []) (M' := M1) rfl ?_
  refine lw_st C0 hI hcc hss 1 (pc' := 555) (vs' := [some (.retAddr 0), some (.ref 0), some (.ref 633), some (.ref 663), some (.int i), kk, bb]) (st' := [.ref 633]) (M' := M1) rfl ?_
  refine lw_ld C0 hI hcc hss (pc5 := 560) (pc6 := 561) (j := i + 1) (st := [.ref 633]) rfl rfl rfl h1 ?_
  refine lw_cal C0 hI hcc hss (pc3 := 564) (rest := []) (Q := fun v M' => v = some (.int r1) ∧ M2 = M') ⟨_, _, hE2, rfl, rfl⟩ rfl (cl_71 hV1.r633 rfl) rfl ?_
  rintro v M9 ⟨rfl, rfl⟩
  refine lw_st C0 hI hcc hss 1 (pc' := 565) (vs' := [some (.retAddr 0), some (.ref 0), some (.ref 633), some (.ref 663), some (.int i), kk, bb]) (st' := []) (M' := M2) rfl ?_
  refine lw_st C0 hI hcc hss 1 (pc' := 1324) (vs' := [some (.retAddr 0), some (.ref 0), some (.ref 633), some (.ref 663), some (.int i), kk, bb]) (st' := []) (M' := M2) rfl ?_
  exact k M2 kk bb cells slots hS2 (Nat.le_succ _) (Nat.le_add_right _ _)
set_option maxRecDepth 200000 in
set_option maxHeartbeats 4000000 in
theorem lc_12 (C0 : lw_At p s m meth c b L xs) (hI : Inv s.heap.size sa cy dC dI (some sc) s) (hcc : cells ≤ 601024) (hss : slots ≤ 7293034) {i : Int32} {kk bb : Option Value} {M : Mem} (hS : SV7 M) (hx : SX sc i) (k : ∀ M' kk' bb' cells' slots', SV7 M' → cells' ≤ cells + 1 → slots' ≤ slots + 6 → Wst p l e room_1 s m #[Value.ref b] below meth c (lw_Z below #[Value.ref b] s) s.heap.size sa cy dC dI 7 cells' slots' 1324 [some (.retAddr 0), some (.ref 0), some (.ref 633), some (.ref 663), some (.int i), kk', bb'] [] M') : Wst p l e room_1 s m #[Value.ref b] below meth c (lw_Z below #[Value.ref b] s) s.heap.size sa cy dC dI 7 cells slots 568 [some (.retAddr 0), some (.ref 0), some (.ref 633), some (.ref 663), some (.int i), kk, bb] [] M := by
  obtain ⟨⟨x1, h1⟩, ⟨x2, h2⟩, ⟨x3, h3⟩, ⟨x4, h4⟩, x5, h5⟩ := hx
  have hV0 := hS.six.1
  obtain ⟨M1, M2, hE1, hE2, hV1, hS2⟩ := pj_12 hS
  refine lw_st C0 hI hcc hss 1 (pc' := 569) (vs' := [some (.retAddr 0), some (.ref 0), some (.ref 633), some (.ref 663), some (.int i), kk, bb]) (st' := [.ref 0]) (M' := M) rfl ?_
  refine lw_cal C0 hI hcc hss (pc3 := 572) (rest := []) (Q := fun v M' => v = none ∧ M1 = M') ⟨_, _, hE1, rfl, rfl⟩ rfl (cl_72 hV0.r0 rfl) rfl ?_
  rintro v M9 ⟨rfl, rfl⟩
  refine lw_st C0 hI hcc hss 1 (pc' := 573) (vs' := [some (.retAddr 0), some (.ref 0), some (.ref 633), some (.ref 663), some (.int i), kk, bb]) (st' := [.ref 633]) (M' := M1) rfl ?_
  refine lw_cal C0 hI hcc hss (pc3 := 576) (rest := []) (Q := fun v M' => v = none ∧ M2 = M') ⟨_, _, hE2, rfl, rfl⟩ rfl (cl_75 hV1.r633 rfl) rfl ?_
  rintro v M9 ⟨rfl, rfl⟩
  refine lw_st C0 hI hcc hss 1 (pc' := 1324) (vs' := [some (.retAddr 0), some (.ref 0), some (.ref 633), some (.ref 663), some (.int i), kk, bb]) (st' := []) (M' := M2) rfl ?_
  exact k M2 kk bb cells slots hS2 (Nat.le_succ _) (Nat.le_add_right _ _)
set_option maxRecDepth 200000 in
set_option maxHeartbeats 4000000 in
theorem lc_13 (C0 : lw_At p s m meth c b L xs) (hI : Inv s.heap.size sa cy dC dI (some sc) s) (hcc : cells ≤ 601024) (hss : slots ≤ 7293034) {i : Int32} {kk bb : Option Value} {M : Mem} (hS : SV7 M) (hx : SX sc i) (k : ∀ M' kk' bb' cells' slots', SV7 M' → cells' ≤ cells + 1 → slots' ≤ slots + 6 → Wst p l e room_1 s m #[Value.ref b] below meth c (lw_Z below #[Value.ref b] s) s.heap.size sa cy dC dI 7 cells' slots' 1324 [some (.retAddr 0), some (.ref 0), some (.ref 633), some (.ref 663), some (.int i), kk', bb'] [] M') : Wst p l e room_1 s m #[Value.ref b] below meth c (lw_Z below #[Value.ref b] s) s.heap.size sa cy dC dI 7 cells slots 579 [some (.retAddr 0), some (.ref 0), some (.ref 633), some (.ref 663), some (.int i), kk, bb] [] M := by
  obtain ⟨⟨x1, h1⟩, ⟨x2, h2⟩, ⟨x3, h3⟩, ⟨x4, h4⟩, x5, h5⟩ := hx
  have hV0 := hS.six.1
  obtain ⟨r1, M1, M2, hE1, hE2, hV1, hS2⟩ := pj_13 (x1 := x1) (x2 := x2) hS
  refine lw_st C0 hI hcc hss 1 (pc' := 580) (vs' := [some (.retAddr 0), some (.ref 0), some (.ref 633), some (.ref 663), some (.int i), kk, bb]) (st' := [.ref 0]) (M' := M) rfl ?_
  refine lw_ld C0 hI hcc hss (pc5 := 585) (pc6 := 586) (j := i + 1) (st := [.ref 0]) rfl rfl rfl h1 ?_
  refine lw_ld C0 hI hcc hss (pc5 := 591) (pc6 := 592) (j := i + 2) (st := [.int x1, .ref 0]) rfl rfl rfl h2 ?_
  refine lw_cal C0 hI hcc hss (pc3 := 595) (rest := []) (Q := fun v M' => v = some (.int r1) ∧ M1 = M') ⟨_, _, hE1, rfl, rfl⟩ rfl (cl_76 hV0.r0 rfl) rfl ?_
  rintro v M9 ⟨rfl, rfl⟩
  refine lw_st C0 hI hcc hss 1 (pc' := 596) (vs' := [some (.retAddr 0), some (.ref 0), some (.ref 633), some (.ref 663), some (.int i), kk, bb]) (st' := []) (M' := M1) rfl ?_
  refine lw_st C0 hI hcc hss 1 (pc' := 597) (vs' := [some (.retAddr 0), some (.ref 0), some (.ref 633), some (.ref 663), some (.int i), kk, bb]) (st' := [.ref 633]) (M' := M1) rfl ?_
  refine lw_ld C0 hI hcc hss (pc5 := 602) (pc6 := 603) (j := i + 1) (st := [.ref 633]) rfl rfl rfl h1 ?_
  refine lw_ld C0 hI hcc hss (pc5 := 608) (pc6 := 609) (j := i + 2) (st := [.int x1, .ref 633]) rfl rfl rfl h2 ?_
  refine lw_cal C0 hI hcc hss (pc3 := 612) (rest := []) (Q := fun v M' => v = some (.int r1) ∧ M2 = M') ⟨_, _, hE2, rfl, rfl⟩ rfl (cl_79 hV1.r633 rfl) rfl ?_
  rintro v M9 ⟨rfl, rfl⟩
  refine lw_st C0 hI hcc hss 1 (pc' := 613) (vs' := [some (.retAddr 0), some (.ref 0), some (.ref 633), some (.ref 663), some (.int i), kk, bb]) (st' := []) (M' := M2) rfl ?_
  refine lw_st C0 hI hcc hss 1 (pc' := 1324) (vs' := [some (.retAddr 0), some (.ref 0), some (.ref 633), some (.ref 663), some (.int i), kk, bb]) (st' := []) (M' := M2) rfl ?_
  exact k M2 kk bb cells slots hS2 (Nat.le_succ _) (Nat.le_add_right _ _)
set_option maxRecDepth 200000 in
set_option maxHeartbeats 4000000 in
theorem lc_15 (C0 : lw_At p s m meth c b L xs) (hI : Inv s.heap.size sa cy dC dI (some sc) s) (hcc : cells ≤ 601024) (hss : slots ≤ 7293034) {i : Int32} {kk bb : Option Value} {M : Mem} (hS : SV7 M) (hx : SX sc i) (k : ∀ M' kk' bb' cells' slots', SV7 M' → cells' ≤ cells + 1 → slots' ≤ slots + 6 → Wst p l e room_1 s m #[Value.ref b] below meth c (lw_Z below #[Value.ref b] s) s.heap.size sa cy dC dI 7 cells' slots' 1324 [some (.retAddr 0), some (.ref 0), some (.ref 633), some (.ref 663), some (.int i), kk', bb'] [] M') : Wst p l e room_1 s m #[Value.ref b] below meth c (lw_Z below #[Value.ref b] s) s.heap.size sa cy dC dI 7 cells slots 656 [some (.retAddr 0), some (.ref 0), some (.ref 633), some (.ref 663), some (.int i), kk, bb] [] M := by
  obtain ⟨⟨x1, h1⟩, ⟨x2, h2⟩, ⟨x3, h3⟩, ⟨x4, h4⟩, x5, h5⟩ := hx
  have hV0 := hS.six.1
  obtain ⟨r1, M1, M2, hE1, hE2, hV1, hS2⟩ := pj_15 (x1 := x1) (x2 := x2) hS
  refine lw_st C0 hI hcc hss 1 (pc' := 657) (vs' := [some (.retAddr 0), some (.ref 0), some (.ref 633), some (.ref 663), some (.int i), kk, bb]) (st' := [.ref 0]) (M' := M) rfl ?_
  refine lw_ld C0 hI hcc hss (pc5 := 662) (pc6 := 663) (j := i + 1) (st := [.ref 0]) rfl rfl rfl h1 ?_
  refine lw_ld C0 hI hcc hss (pc5 := 668) (pc6 := 669) (j := i + 2) (st := [.int x1, .ref 0]) rfl rfl rfl h2 ?_
  refine lw_cal C0 hI hcc hss (pc3 := 672) (rest := []) (Q := fun v M' => v = some (.int r1) ∧ M1 = M') ⟨_, _, hE1, rfl, rfl⟩ rfl (cl_86 hV0.r0 rfl) rfl ?_
  rintro v M9 ⟨rfl, rfl⟩
  refine lw_st C0 hI hcc hss 1 (pc' := 673) (vs' := [some (.retAddr 0), some (.ref 0), some (.ref 633), some (.ref 663), some (.int i), kk, bb]) (st' := []) (M' := M1) rfl ?_
  refine lw_st C0 hI hcc hss 1 (pc' := 674) (vs' := [some (.retAddr 0), some (.ref 0), some (.ref 633), some (.ref 663), some (.int i), kk, bb]) (st' := [.ref 633]) (M' := M1) rfl ?_
  refine lw_ld C0 hI hcc hss (pc5 := 679) (pc6 := 680) (j := i + 1) (st := [.ref 633]) rfl rfl rfl h1 ?_
  refine lw_ld C0 hI hcc hss (pc5 := 685) (pc6 := 686) (j := i + 2) (st := [.int x1, .ref 633]) rfl rfl rfl h2 ?_
  refine lw_cal C0 hI hcc hss (pc3 := 689) (rest := []) (Q := fun v M' => v = some (.int r1) ∧ M2 = M') ⟨_, _, hE2, rfl, rfl⟩ rfl (cl_89 hV1.r633 rfl) rfl ?_
  rintro v M9 ⟨rfl, rfl⟩
  refine lw_st C0 hI hcc hss 1 (pc' := 690) (vs' := [some (.retAddr 0), some (.ref 0), some (.ref 633), some (.ref 663), some (.int i), kk, bb]) (st' := []) (M' := M2) rfl ?_
  refine lw_st C0 hI hcc hss 1 (pc' := 1324) (vs' := [some (.retAddr 0), some (.ref 0), some (.ref 633), some (.ref 663), some (.int i), kk, bb]) (st' := []) (M' := M2) rfl ?_
  exact k M2 kk bb cells slots hS2 (Nat.le_succ _) (Nat.le_add_right _ _)
set_option maxRecDepth 200000 in
set_option maxHeartbeats 4000000 in
theorem lc_16 (C0 : lw_At p s m meth c b L xs) (hI : Inv s.heap.size sa cy dC dI (some sc) s) (hcc : cells ≤ 601024) (hss : slots ≤ 7293034) {i : Int32} {kk bb : Option Value} {M : Mem} (hS : SV7 M) (hx : SX sc i) (k : ∀ M' kk' bb' cells' slots', SV7 M' → cells' ≤ cells + 1 → slots' ≤ slots + 6 → Wst p l e room_1 s m #[Value.ref b] below meth c (lw_Z below #[Value.ref b] s) s.heap.size sa cy dC dI 7 cells' slots' 1324 [some (.retAddr 0), some (.ref 0), some (.ref 633), some (.ref 663), some (.int i), kk', bb'] [] M') : Wst p l e room_1 s m #[Value.ref b] below meth c (lw_Z below #[Value.ref b] s) s.heap.size sa cy dC dI 7 cells slots 693 [some (.retAddr 0), some (.ref 0), some (.ref 633), some (.ref 663), some (.int i), kk, bb] [] M := by
  obtain ⟨⟨x1, h1⟩, ⟨x2, h2⟩, ⟨x3, h3⟩, ⟨x4, h4⟩, x5, h5⟩ := hx
  have hV0 := hS.six.1
  obtain ⟨r1, M1, M2, hE1, hE2, hV1, hS2⟩ := pj_16 hS
  refine lw_st C0 hI hcc hss 1 (pc' := 694) (vs' := [some (.retAddr 0), some (.ref 0), some (.ref 633), some (.ref 663), some (.int i), kk, bb]) (st' := [.ref 0]) (M' := M) rfl ?_
  refine lw_cal C0 hI hcc hss (pc3 := 697) (rest := []) (Q := fun v M' => v = some (.int r1) ∧ M1 = M') ⟨_, _, hE1, rfl, rfl⟩ rfl (cl_90 hV0.r0 rfl) rfl ?_
  rintro v M9 ⟨rfl, rfl⟩
  refine lw_st C0 hI hcc hss 1 (pc' := 698) (vs' := [some (.retAddr 0), some (.ref 0), some (.ref 633), some (.ref 663), some (.int i), kk, bb]) (st' := []) (M' := M1) rfl ?_
  refine lw_st C0 hI hcc hss 1 (pc' := 699) (vs' := [some (.retAddr 0), some (.ref 0), some (.ref 633), some (.ref 663), some (.int i), kk, bb]) (st' := [.ref 633]) (M' := M1) rfl ?_
  refine lw_cal C0 hI hcc hss (pc3 := 702) (rest := []) (Q := fun v M' => v = some (.int r1) ∧ M2 = M') ⟨_, _, hE2, rfl, rfl⟩ rfl (cl_93 hV1.r633 rfl) rfl ?_
  rintro v M9 ⟨rfl, rfl⟩
  refine lw_st C0 hI hcc hss 1 (pc' := 703) (vs' := [some (.retAddr 0), some (.ref 0), some (.ref 633), some (.ref 663), some (.int i), kk, bb]) (st' := []) (M' := M2) rfl ?_
  refine lw_st C0 hI hcc hss 1 (pc' := 1324) (vs' := [some (.retAddr 0), some (.ref 0), some (.ref 633), some (.ref 663), some (.int i), kk, bb]) (st' := []) (M' := M2) rfl ?_
  exact k M2 kk bb cells slots hS2 (Nat.le_succ _) (Nat.le_add_right _ _)
set_option maxRecDepth 200000 in
set_option maxHeartbeats 4000000 in
theorem lc_17 (C0 : lw_At p s m meth c b L xs) (hI : Inv s.heap.size sa cy dC dI (some sc) s) (hcc : cells ≤ 601024) (hss : slots ≤ 7293034) {i : Int32} {kk bb : Option Value} {M : Mem} (hS : SV7 M) (hx : SX sc i) (k : ∀ M' kk' bb' cells' slots', SV7 M' → cells' ≤ cells + 1 → slots' ≤ slots + 6 → Wst p l e room_1 s m #[Value.ref b] below meth c (lw_Z below #[Value.ref b] s) s.heap.size sa cy dC dI 7 cells' slots' 1324 [some (.retAddr 0), some (.ref 0), some (.ref 633), some (.ref 663), some (.int i), kk', bb'] [] M') : Wst p l e room_1 s m #[Value.ref b] below meth c (lw_Z below #[Value.ref b] s) s.heap.size sa cy dC dI 7 cells slots 706 [some (.retAddr 0), some (.ref 0), some (.ref 633), some (.ref 663), some (.int i), kk, bb] [] M := by
  obtain ⟨⟨x1, h1⟩, ⟨x2, h2⟩, ⟨x3, h3⟩, ⟨x4, h4⟩, x5, h5⟩ := hx
  have hV0 := hS.six.1
  obtain ⟨r1, r2, M1, M2, hE1, hE2, hV1, hS2⟩ := pj_17 hS
  refine lw_st C0 hI hcc hss 1 (pc' := 707) (vs' := [some (.retAddr 0), some (.ref 0), some (.ref 633), some (.ref 663), some (.int i), kk, bb]) (st' := [.ref 0]) (M' := M) rfl ?_
  refine lw_cal C0 hI hcc hss (pc3 := 710) (rest := []) (Q := fun v M' => v = some (.int r1) ∧ M1 = M') ⟨_, _, hE1, rfl, rfl⟩ rfl (cl_94 hV0.r0 rfl) rfl ?_
  rintro v M9 ⟨rfl, rfl⟩
  refine lw_st C0 hI hcc hss 1 (pc' := 711) (vs' := [some (.retAddr 0), some (.ref 0), some (.ref 633), some (.ref 663), some (.int i), kk, bb]) (st' := []) (M' := M1) rfl ?_
  refine lw_st C0 hI hcc hss 1 (pc' := 712) (vs' := [some (.retAddr 0), some (.ref 0), some (.ref 633), some (.ref 663), some (.int i), kk, bb]) (st' := [.ref 633]) (M' := M1) rfl ?_
  refine lw_cal C0 hI hcc hss (pc3 := 715) (rest := []) (Q := fun v M' => v = some (.int r2) ∧ M2 = M') ⟨_, _, hE2, rfl, rfl⟩ rfl (cl_97 hV1.r633 rfl) rfl ?_
  rintro v M9 ⟨rfl, rfl⟩
  refine lw_st C0 hI hcc hss 1 (pc' := 716) (vs' := [some (.retAddr 0), some (.ref 0), some (.ref 633), some (.ref 663), some (.int i), kk, bb]) (st' := []) (M' := M2) rfl ?_
  refine lw_st C0 hI hcc hss 1 (pc' := 1324) (vs' := [some (.retAddr 0), some (.ref 0), some (.ref 633), some (.ref 663), some (.int i), kk, bb]) (st' := []) (M' := M2) rfl ?_
  exact k M2 kk bb cells slots hS2 (Nat.le_succ _) (Nat.le_add_right _ _)
set_option maxRecDepth 200000 in
set_option maxHeartbeats 4000000 in
theorem lc_18 (C0 : lw_At p s m meth c b L xs) (hI : Inv s.heap.size sa cy dC dI (some sc) s) (hcc : cells ≤ 601024) (hss : slots ≤ 7293034) {i : Int32} {kk bb : Option Value} {M : Mem} (hS : SV7 M) (hx : SX sc i) (k : ∀ M' kk' bb' cells' slots', SV7 M' → cells' ≤ cells + 1 → slots' ≤ slots + 6 → Wst p l e room_1 s m #[Value.ref b] below meth c (lw_Z below #[Value.ref b] s) s.heap.size sa cy dC dI 7 cells' slots' 1324 [some (.retAddr 0), some (.ref 0), some (.ref 633), some (.ref 663), some (.int i), kk', bb'] [] M') : Wst p l e room_1 s m #[Value.ref b] below meth c (lw_Z below #[Value.ref b] s) s.heap.size sa cy dC dI 7 cells slots 719 [some (.retAddr 0), some (.ref 0), some (.ref 633), some (.ref 663), some (.int i), kk, bb] [] M := by
  obtain ⟨⟨x1, h1⟩, ⟨x2, h2⟩, ⟨x3, h3⟩, ⟨x4, h4⟩, x5, h5⟩ := hx
  have hV0 := hS.six.1
  obtain ⟨r1, M1, M2, hE1, hE2, hV1, hS2⟩ := pj_18 (x1 := x1) (x2 := x2) hS
  refine lw_st C0 hI hcc hss 1 (pc' := 720) (vs' := [some (.retAddr 0), some (.ref 0), some (.ref 633), some (.ref 663), some (.int i), kk, bb]) (st' := [.ref 0]) (M' := M) rfl ?_
  refine lw_ld C0 hI hcc hss (pc5 := 725) (pc6 := 726) (j := i + 1) (st := [.ref 0]) rfl rfl rfl h1 ?_
  refine lw_ld C0 hI hcc hss (pc5 := 731) (pc6 := 732) (j := i + 2) (st := [.int x1, .ref 0]) rfl rfl rfl h2 ?_
  refine lw_cal C0 hI hcc hss (pc3 := 735) (rest := []) (Q := fun v M' => v = some (.int r1) ∧ M1 = M') ⟨_, _, hE1, rfl, rfl⟩ rfl (cl_98 hV0.r0 rfl) rfl ?_
  rintro v M9 ⟨rfl, rfl⟩
  refine lw_st C0 hI hcc hss 1 (pc' := 736) (vs' := [some (.retAddr 0), some (.ref 0), some (.ref 633), some (.ref 663), some (.int i), kk, bb]) (st' := []) (M' := M1) rfl ?_
  refine lw_st C0 hI hcc hss 1 (pc' := 737) (vs' := [some (.retAddr 0), some (.ref 0), some (.ref 633), some (.ref 663), some (.int i), kk, bb]) (st' := [.ref 633]) (M' := M1) rfl ?_
  refine lw_ld C0 hI hcc hss (pc5 := 742) (pc6 := 743) (j := i + 1) (st := [.ref 633]) rfl rfl rfl h1 ?_
  refine lw_ld C0 hI hcc hss (pc5 := 748) (pc6 := 749) (j := i + 2) (st := [.int x1, .ref 633]) rfl rfl rfl h2 ?_
  refine lw_cal C0 hI hcc hss (pc3 := 752) (rest := []) (Q := fun v M' => v = some (.int r1) ∧ M2 = M') ⟨_, _, hE2, rfl, rfl⟩ rfl (cl_101 hV1.r633 rfl) rfl ?_
  rintro v M9 ⟨rfl, rfl⟩
  refine lw_st C0 hI hcc hss 1 (pc' := 753) (vs' := [some (.retAddr 0), some (.ref 0), some (.ref 633), some (.ref 663), some (.int i), kk, bb]) (st' := []) (M' := M2) rfl ?_
  refine lw_st C0 hI hcc hss 1 (pc' := 1324) (vs' := [some (.retAddr 0), some (.ref 0), some (.ref 633), some (.ref 663), some (.int i), kk, bb]) (st' := []) (M' := M2) rfl ?_
  exact k M2 kk bb cells slots hS2 (Nat.le_succ _) (Nat.le_add_right _ _)
set_option maxRecDepth 200000 in
set_option maxHeartbeats 4000000 in
theorem lc_19 (C0 : lw_At p s m meth c b L xs) (hI : Inv s.heap.size sa cy dC dI (some sc) s) (hcc : cells ≤ 601024) (hss : slots ≤ 7293034) {i : Int32} {kk bb : Option Value} {M : Mem} (hS : SV7 M) (hx : SX sc i) (k : ∀ M' kk' bb' cells' slots', SV7 M' → cells' ≤ cells + 1 → slots' ≤ slots + 6 → Wst p l e room_1 s m #[Value.ref b] below meth c (lw_Z below #[Value.ref b] s) s.heap.size sa cy dC dI 7 cells' slots' 1324 [some (.retAddr 0), some (.ref 0), some (.ref 633), some (.ref 663), some (.int i), kk', bb'] [] M') : Wst p l e room_1 s m #[Value.ref b] below meth c (lw_Z below #[Value.ref b] s) s.heap.size sa cy dC dI 7 cells slots 756 [some (.retAddr 0), some (.ref 0), some (.ref 633), some (.ref 663), some (.int i), kk, bb] [] M := by
  obtain ⟨⟨x1, h1⟩, ⟨x2, h2⟩, ⟨x3, h3⟩, ⟨x4, h4⟩, x5, h5⟩ := hx
  have hV0 := hS.six.1
  obtain ⟨r1, r2, M1, M2, hE1, hE2, hV1, hS2⟩ := pj_19 hS
  refine lw_st C0 hI hcc hss 1 (pc' := 757) (vs' := [some (.retAddr 0), some (.ref 0), some (.ref 633), some (.ref 663), some (.int i), kk, bb]) (st' := [.ref 0]) (M' := M) rfl ?_
  refine lw_cal C0 hI hcc hss (pc3 := 760) (rest := []) (Q := fun v M' => v = some (.int r1) ∧ M1 = M') ⟨_, _, hE1, rfl, rfl⟩ rfl (cl_102 hV0.r0 rfl) rfl ?_
  rintro v M9 ⟨rfl, rfl⟩
  refine lw_st C0 hI hcc hss 1 (pc' := 761) (vs' := [some (.retAddr 0), some (.ref 0), some (.ref 633), some (.ref 663), some (.int i), kk, bb]) (st' := []) (M' := M1) rfl ?_
  refine lw_st C0 hI hcc hss 1 (pc' := 762) (vs' := [some (.retAddr 0), some (.ref 0), some (.ref 633), some (.ref 663), some (.int i), kk, bb]) (st' := [.ref 633]) (M' := M1) rfl ?_
  refine lw_cal C0 hI hcc hss (pc3 := 765) (rest := []) (Q := fun v M' => v = some (.int r2) ∧ M2 = M') ⟨_, _, hE2, rfl, rfl⟩ rfl (cl_105 hV1.r633 rfl) rfl ?_
  rintro v M9 ⟨rfl, rfl⟩
  refine lw_st C0 hI hcc hss 1 (pc' := 766) (vs' := [some (.retAddr 0), some (.ref 0), some (.ref 633), some (.ref 663), some (.int i), kk, bb]) (st' := []) (M' := M2) rfl ?_
  refine lw_st C0 hI hcc hss 1 (pc' := 1324) (vs' := [some (.retAddr 0), some (.ref 0), some (.ref 633), some (.ref 663), some (.int i), kk, bb]) (st' := []) (M' := M2) rfl ?_
  exact k M2 kk bb cells slots hS2 (Nat.le_succ _) (Nat.le_add_right _ _)
set_option maxRecDepth 200000 in
set_option maxHeartbeats 4000000 in
theorem lc_20 (C0 : lw_At p s m meth c b L xs) (hI : Inv s.heap.size sa cy dC dI (some sc) s) (hcc : cells ≤ 601024) (hss : slots ≤ 7293034) {i : Int32} {kk bb : Option Value} {M : Mem} (hS : SV7 M) (hx : SX sc i) (k : ∀ M' kk' bb' cells' slots', SV7 M' → cells' ≤ cells + 1 → slots' ≤ slots + 6 → Wst p l e room_1 s m #[Value.ref b] below meth c (lw_Z below #[Value.ref b] s) s.heap.size sa cy dC dI 7 cells' slots' 1324 [some (.retAddr 0), some (.ref 0), some (.ref 633), some (.ref 663), some (.int i), kk', bb'] [] M') : Wst p l e room_1 s m #[Value.ref b] below meth c (lw_Z below #[Value.ref b] s) s.heap.size sa cy dC dI 7 cells slots 769 [some (.retAddr 0), some (.ref 0), some (.ref 633), some (.ref 663), some (.int i), kk, bb] [] M := by
  obtain ⟨⟨x1, h1⟩, ⟨x2, h2⟩, ⟨x3, h3⟩, ⟨x4, h4⟩, x5, h5⟩ := hx
  have hV0 := hS.six.1
  obtain ⟨r1, r2, M1, M2, hE1, hE2, hV1, hS2⟩ := pj_20 (x1 := x1) (x2 := x2) hS
  refine lw_st C0 hI hcc hss 1 (pc' := 770) (vs' := [some (.retAddr 0), some (.ref 0), some (.ref 633), some (.ref 663), some (.int i), kk, bb]) (st' := [.ref 0]) (M' := M) rfl ?_
  refine lw_ld C0 hI hcc hss (pc5 := 775) (pc6 := 776) (j := i + 1) (st := [.ref 0]) rfl rfl rfl h1 ?_
  refine lw_ld C0 hI hcc hss (pc5 := 781) (pc6 := 782) (j := i + 2) (st := [.int x1, .ref 0]) rfl rfl rfl h2 ?_
  refine lw_cal C0 hI hcc hss (pc3 := 785) (rest := []) (Q := fun v M' => v = some (.int r1) ∧ M1 = M') ⟨_, _, hE1, rfl, rfl⟩ rfl (cl_106 hV0.r0 rfl) rfl ?_
  rintro v M9 ⟨rfl, rfl⟩
  refine lw_st C0 hI hcc hss 1 (pc' := 786) (vs' := [some (.retAddr 0), some (.ref 0), some (.ref 633), some (.ref 663), some (.int i), kk, bb]) (st' := []) (M' := M1) rfl ?_
  refine lw_st C0 hI hcc hss 1 (pc' := 787) (vs' := [some (.retAddr 0), some (.ref 0), some (.ref 633), some (.ref 663), some (.int i), kk, bb]) (st' := [.ref 633]) (M' := M1) rfl ?_
  refine lw_ld C0 hI hcc hss (pc5 := 792) (pc6 := 793) (j := i + 1) (st := [.ref 633]) rfl rfl rfl h1 ?_
  refine lw_ld C0 hI hcc hss (pc5 := 798) (pc6 := 799) (j := i + 2) (st := [.int x1, .ref 633]) rfl rfl rfl h2 ?_
  refine lw_cal C0 hI hcc hss (pc3 := 802) (rest := []) (Q := fun v M' => v = some (.int r2) ∧ M2 = M') ⟨_, _, hE2, rfl, rfl⟩ rfl (cl_109 hV1.r633 rfl) rfl ?_
  rintro v M9 ⟨rfl, rfl⟩
  refine lw_st C0 hI hcc hss 1 (pc' := 803) (vs' := [some (.retAddr 0), some (.ref 0), some (.ref 633), some (.ref 663), some (.int i), kk, bb]) (st' := []) (M' := M2) rfl ?_
  refine lw_st C0 hI hcc hss 1 (pc' := 1324) (vs' := [some (.retAddr 0), some (.ref 0), some (.ref 633), some (.ref 663), some (.int i), kk, bb]) (st' := []) (M' := M2) rfl ?_
  exact k M2 kk bb cells slots hS2 (Nat.le_succ _) (Nat.le_add_right _ _)
set_option maxRecDepth 200000 in
set_option maxHeartbeats 4000000 in
theorem lc_21 (C0 : lw_At p s m meth c b L xs) (hI : Inv s.heap.size sa cy dC dI (some sc) s) (hcc : cells ≤ 601024) (hss : slots ≤ 7293034) {i : Int32} {kk bb : Option Value} {M : Mem} (hS : SV7 M) (hx : SX sc i) (k : ∀ M' kk' bb' cells' slots', SV7 M' → cells' ≤ cells + 1 → slots' ≤ slots + 6 → Wst p l e room_1 s m #[Value.ref b] below meth c (lw_Z below #[Value.ref b] s) s.heap.size sa cy dC dI 7 cells' slots' 1324 [some (.retAddr 0), some (.ref 0), some (.ref 633), some (.ref 663), some (.int i), kk', bb'] [] M') : Wst p l e room_1 s m #[Value.ref b] below meth c (lw_Z below #[Value.ref b] s) s.heap.size sa cy dC dI 7 cells slots 806 [some (.retAddr 0), some (.ref 0), some (.ref 633), some (.ref 663), some (.int i), kk, bb] [] M := by
  obtain ⟨⟨x1, h1⟩, ⟨x2, h2⟩, ⟨x3, h3⟩, ⟨x4, h4⟩, x5, h5⟩ := hx
  have hV0 := hS.six.1
  obtain ⟨r1, M1, M2, hE1, hE2, hV1, hS2⟩ := pj_21 (x1 := x1) (x2 := x2) (x3 := x3) (x4 := x4) hS
  refine lw_st C0 hI hcc hss 1 (pc' := 807) (vs' := [some (.retAddr 0), some (.ref 0), some (.ref 633), some (.ref 663), some (.int i), kk, bb]) (st' := [.ref 0]) (M' := M) rfl ?_
  refine lw_ld C0 hI hcc hss (pc5 := 812) (pc6 := 813) (j := i + 1) (st := [.ref 0]) rfl rfl rfl h1 ?_
  refine lw_ld C0 hI hcc hss (pc5 := 818) (pc6 := 819) (j := i + 2) (st := [.int x1, .ref 0]) rfl rfl rfl h2 ?_
  refine lw_ld C0 hI hcc hss (pc5 := 824) (pc6 := 825) (j := i + 3) (st := [.int x2, .int x1, .ref 0]) rfl rfl rfl h3 ?_
  refine lw_ld C0 hI hcc hss (pc5 := 830) (pc6 := 831) (j := i + 4) (st := [.int x3, .int x2, .int x1, .ref 0]) rfl rfl rfl h4 ?_
  refine lw_cal C0 hI hcc hss (pc3 := 834) (rest := []) (Q := fun v M' => v = some (.int r1) ∧ M1 = M') ⟨_, _, hE1, rfl, rfl⟩ rfl (cl_110 hV0.r0 rfl) rfl ?_
  rintro v M9 ⟨rfl, rfl⟩
  refine lw_st C0 hI hcc hss 1 (pc' := 835) (vs' := [some (.retAddr 0), some (.ref 0), some (.ref 633), some (.ref 663), some (.int i), kk, bb]) (st' := []) (M' := M1) rfl ?_
  refine lw_st C0 hI hcc hss 1 (pc' := 836) (vs' := [some (.retAddr 0), some (.ref 0), some (.ref 633), some (.ref 663), some (.int i), kk, bb]) (st' := [.ref 633]) (M' := M1) rfl ?_
  refine lw_ld C0 hI hcc hss (pc5 := 841) (pc6 := 842) (j := i + 1) (st := [.ref 633]) rfl rfl rfl h1 ?_
  refine lw_ld C0 hI hcc hss (pc5 := 847) (pc6 := 848) (j := i + 2) (st := [.int x1, .ref 633]) rfl rfl rfl h2 ?_
  refine lw_ld C0 hI hcc hss (pc5 := 853) (pc6 := 854) (j := i + 3) (st := [.int x2, .int x1, .ref 633]) rfl rfl rfl h3 ?_
  refine lw_ld C0 hI hcc hss (pc5 := 859) (pc6 := 860) (j := i + 4) (st := [.int x3, .int x2, .int x1, .ref 633]) rfl rfl rfl h4 ?_
  refine lw_cal C0 hI hcc hss (pc3 := 863) (rest := []) (Q := fun v M' => v = some (.int r1) ∧ M2 = M') ⟨_, _, hE2, rfl, rfl⟩ rfl (cl_114 hV1.r633 rfl) rfl ?_
  rintro v M9 ⟨rfl, rfl⟩
  refine lw_st C0 hI hcc hss 1 (pc' := 864) (vs' := [some (.retAddr 0), some (.ref 0), some (.ref 633), some (.ref 663), some (.int i), kk, bb]) (st' := []) (M' := M2) rfl ?_
  refine lw_st C0 hI hcc hss 1 (pc' := 1324) (vs' := [some (.retAddr 0), some (.ref 0), some (.ref 633), some (.ref 663), some (.int i), kk, bb]) (st' := []) (M' := M2) rfl ?_
  exact k M2 kk bb cells slots hS2 (Nat.le_succ _) (Nat.le_add_right _ _)
set_option maxRecDepth 200000 in
set_option maxHeartbeats 4000000 in
theorem lc_22 (C0 : lw_At p s m meth c b L xs) (hI : Inv s.heap.size sa cy dC dI (some sc) s) (hcc : cells ≤ 601024) (hss : slots ≤ 7293034) {i : Int32} {kk bb : Option Value} {M : Mem} (hS : SV7 M) (hx : SX sc i) (k : ∀ M' kk' bb' cells' slots', SV7 M' → cells' ≤ cells + 1 → slots' ≤ slots + 6 → Wst p l e room_1 s m #[Value.ref b] below meth c (lw_Z below #[Value.ref b] s) s.heap.size sa cy dC dI 7 cells' slots' 1324 [some (.retAddr 0), some (.ref 0), some (.ref 633), some (.ref 663), some (.int i), kk', bb'] [] M') : Wst p l e room_1 s m #[Value.ref b] below meth c (lw_Z below #[Value.ref b] s) s.heap.size sa cy dC dI 7 cells slots 867 [some (.retAddr 0), some (.ref 0), some (.ref 633), some (.ref 663), some (.int i), kk, bb] [] M := by
  obtain ⟨⟨x1, h1⟩, ⟨x2, h2⟩, ⟨x3, h3⟩, ⟨x4, h4⟩, x5, h5⟩ := hx
  have hV0 := hS.six.1
  obtain ⟨r1, M1, M2, hE1, hE2, hV1, hS2⟩ := pj_22 (x1 := x1) (x2 := x2) (x3 := x3) (x4 := x4) hS
  refine lw_st C0 hI hcc hss 1 (pc' := 868) (vs' := [some (.retAddr 0), some (.ref 0), some (.ref 633), some (.ref 663), some (.int i), kk, bb]) (st' := [.ref 0]) (M' := M) rfl ?_
  refine lw_ld C0 hI hcc hss (pc5 := 873) (pc6 := 874) (j := i + 1) (st := [.ref 0]) rfl rfl rfl h1 ?_
  refine lw_ld C0 hI hcc hss (pc5 := 879) (pc6 := 880) (j := i + 2) (st := [.int x1, .ref 0]) rfl rfl rfl h2 ?_
  refine lw_ld C0 hI hcc hss (pc5 := 885) (pc6 := 886) (j := i + 3) (st := [.int x2, .int x1, .ref 0]) rfl rfl rfl h3 ?_
  refine lw_ld C0 hI hcc hss (pc5 := 891) (pc6 := 892) (j := i + 4) (st := [.int x3, .int x2, .int x1, .ref 0]) rfl rfl rfl h4 ?_
  refine lw_cal C0 hI hcc hss (pc3 := 895) (rest := []) (Q := fun v M' => v = some (.int r1) ∧ M1 = M') ⟨_, _, hE1, rfl, rfl⟩ rfl (cl_115 hV0.r0 rfl) rfl ?_
  rintro v M9 ⟨rfl, rfl⟩
  refine lw_st C0 hI hcc hss 1 (pc' := 896) (vs' := [some (.retAddr 0), some (.ref 0), some (.ref 633), some (.ref 663), some (.int i), kk, bb]) (st' := []) (M' := M1) rfl ?_
  refine lw_st C0 hI hcc hss 1 (pc' := 897) (vs' := [some (.retAddr 0), some (.ref 0), some (.ref 633), some (.ref 663), some (.int i), kk, bb]) (st' := [.ref 633]) (M' := M1) rfl ?_
  refine lw_ld C0 hI hcc hss (pc5 := 902) (pc6 := 903) (j := i + 1) (st := [.ref 633]) rfl rfl rfl h1 ?_
  refine lw_ld C0 hI hcc hss (pc5 := 908) (pc6 := 909) (j := i + 2) (st := [.int x1, .ref 633]) rfl rfl rfl h2 ?_
  refine lw_ld C0 hI hcc hss (pc5 := 914) (pc6 := 915) (j := i + 3) (st := [.int x2, .int x1, .ref 633]) rfl rfl rfl h3 ?_
  refine lw_ld C0 hI hcc hss (pc5 := 920) (pc6 := 921) (j := i + 4) (st := [.int x3, .int x2, .int x1, .ref 633]) rfl rfl rfl h4 ?_
  refine lw_cal C0 hI hcc hss (pc3 := 924) (rest := []) (Q := fun v M' => v = some (.int r1) ∧ M2 = M') ⟨_, _, hE2, rfl, rfl⟩ rfl (cl_118 hV1.r633 rfl) rfl ?_
  rintro v M9 ⟨rfl, rfl⟩
  refine lw_st C0 hI hcc hss 1 (pc' := 925) (vs' := [some (.retAddr 0), some (.ref 0), some (.ref 633), some (.ref 663), some (.int i), kk, bb]) (st' := []) (M' := M2) rfl ?_
  refine lw_st C0 hI hcc hss 1 (pc' := 1324) (vs' := [some (.retAddr 0), some (.ref 0), some (.ref 633), some (.ref 663), some (.int i), kk, bb]) (st' := []) (M' := M2) rfl ?_
  exact k M2 kk bb cells slots hS2 (Nat.le_succ _) (Nat.le_add_right _ _)
set_option maxRecDepth 200000 in
set_option maxHeartbeats 4000000 in
theorem lc_23 (C0 : lw_At p s m meth c b L xs) (hI : Inv s.heap.size sa cy dC dI (some sc) s) (hcc : cells ≤ 601024) (hss : slots ≤ 7293034) {i : Int32} {kk bb : Option Value} {M : Mem} (hS : SV7 M) (hx : SX sc i) (k : ∀ M' kk' bb' cells' slots', SV7 M' → cells' ≤ cells + 1 → slots' ≤ slots + 6 → Wst p l e room_1 s m #[Value.ref b] below meth c (lw_Z below #[Value.ref b] s) s.heap.size sa cy dC dI 7 cells' slots' 1324 [some (.retAddr 0), some (.ref 0), some (.ref 633), some (.ref 663), some (.int i), kk', bb'] [] M') : Wst p l e room_1 s m #[Value.ref b] below meth c (lw_Z below #[Value.ref b] s) s.heap.size sa cy dC dI 7 cells slots 928 [some (.retAddr 0), some (.ref 0), some (.ref 633), some (.ref 663), some (.int i), kk, bb] [] M := by
  obtain ⟨⟨x1, h1⟩, ⟨x2, h2⟩, ⟨x3, h3⟩, ⟨x4, h4⟩, x5, h5⟩ := hx
  have hV0 := hS.six.1
  obtain ⟨r1, M1, M2, hE1, hE2, hV1, hS2⟩ := pj_23 (x1 := x1) (x2 := x2) hS
  refine lw_st C0 hI hcc hss 1 (pc' := 929) (vs' := [some (.retAddr 0), some (.ref 0), some (.ref 633), some (.ref 663), some (.int i), kk, bb]) (st' := [.ref 0]) (M' := M) rfl ?_
  refine lw_ld C0 hI hcc hss (pc5 := 934) (pc6 := 935) (j := i + 1) (st := [.ref 0]) rfl rfl rfl h1 ?_
  refine lw_ld C0 hI hcc hss (pc5 := 940) (pc6 := 941) (j := i + 2) (st := [.int x1, .ref 0]) rfl rfl rfl h2 ?_
  refine lw_cal C0 hI hcc hss (pc3 := 944) (rest := []) (Q := fun v M' => v = some (.int r1) ∧ M1 = M') ⟨_, _, hE1, rfl, rfl⟩ rfl (cl_119 hV0.r0 rfl) rfl ?_
  rintro v M9 ⟨rfl, rfl⟩
  refine lw_st C0 hI hcc hss 1 (pc' := 945) (vs' := [some (.retAddr 0), some (.ref 0), some (.ref 633), some (.ref 663), some (.int i), kk, bb]) (st' := []) (M' := M1) rfl ?_
  refine lw_st C0 hI hcc hss 1 (pc' := 946) (vs' := [some (.retAddr 0), some (.ref 0), some (.ref 633), some (.ref 663), some (.int i), kk, bb]) (st' := [.ref 633]) (M' := M1) rfl ?_
  refine lw_ld C0 hI hcc hss (pc5 := 951) (pc6 := 952) (j := i + 1) (st := [.ref 633]) rfl rfl rfl h1 ?_
  refine lw_ld C0 hI hcc hss (pc5 := 957) (pc6 := 958) (j := i + 2) (st := [.int x1, .ref 633]) rfl rfl rfl h2 ?_
  refine lw_cal C0 hI hcc hss (pc3 := 961) (rest := []) (Q := fun v M' => v = some (.int r1) ∧ M2 = M') ⟨_, _, hE2, rfl, rfl⟩ rfl (cl_122 hV1.r633 rfl) rfl ?_
  rintro v M9 ⟨rfl, rfl⟩
  refine lw_st C0 hI hcc hss 1 (pc' := 962) (vs' := [some (.retAddr 0), some (.ref 0), some (.ref 633), some (.ref 663), some (.int i), kk, bb]) (st' := []) (M' := M2) rfl ?_
  refine lw_st C0 hI hcc hss 1 (pc' := 1324) (vs' := [some (.retAddr 0), some (.ref 0), some (.ref 633), some (.ref 663), some (.int i), kk, bb]) (st' := []) (M' := M2) rfl ?_
  exact k M2 kk bb cells slots hS2 (Nat.le_succ _) (Nat.le_add_right _ _)
set_option maxRecDepth 200000 in
set_option maxHeartbeats 4000000 in
theorem lc_24 (C0 : lw_At p s m meth c b L xs) (hI : Inv s.heap.size sa cy dC dI (some sc) s) (hcc : cells ≤ 601024) (hss : slots ≤ 7293034) {i : Int32} {kk bb : Option Value} {M : Mem} (hS : SV7 M) (hx : SX sc i) (k : ∀ M' kk' bb' cells' slots', SV7 M' → cells' ≤ cells + 1 → slots' ≤ slots + 6 → Wst p l e room_1 s m #[Value.ref b] below meth c (lw_Z below #[Value.ref b] s) s.heap.size sa cy dC dI 7 cells' slots' 1324 [some (.retAddr 0), some (.ref 0), some (.ref 633), some (.ref 663), some (.int i), kk', bb'] [] M') : Wst p l e room_1 s m #[Value.ref b] below meth c (lw_Z below #[Value.ref b] s) s.heap.size sa cy dC dI 7 cells slots 965 [some (.retAddr 0), some (.ref 0), some (.ref 633), some (.ref 663), some (.int i), kk, bb] [] M := by
  obtain ⟨⟨x1, h1⟩, ⟨x2, h2⟩, ⟨x3, h3⟩, ⟨x4, h4⟩, x5, h5⟩ := hx
  have hV0 := hS.six.1
  obtain ⟨r1, M1, M2, hE1, hE2, hV1, hS2⟩ := pj_24 (x1 := x1) (x2 := x2) hS
  refine lw_st C0 hI hcc hss 1 (pc' := 966) (vs' := [some (.retAddr 0), some (.ref 0), some (.ref 633), some (.ref 663), some (.int i), kk, bb]) (st' := [.ref 0]) (M' := M) rfl ?_
  refine lw_ld C0 hI hcc hss (pc5 := 971) (pc6 := 972) (j := i + 1) (st := [.ref 0]) rfl rfl rfl h1 ?_
  refine lw_ld C0 hI hcc hss (pc5 := 977) (pc6 := 978) (j := i + 2) (st := [.int x1, .ref 0]) rfl rfl rfl h2 ?_
  refine lw_cal C0 hI hcc hss (pc3 := 981) (rest := []) (Q := fun v M' => v = some (.int r1) ∧ M1 = M') ⟨_, _, hE1, rfl, rfl⟩ rfl (cl_123 hV0.r0 rfl) rfl ?_
  rintro v M9 ⟨rfl, rfl⟩
  refine lw_st C0 hI hcc hss 1 (pc' := 982) (vs' := [some (.retAddr 0), some (.ref 0), some (.ref 633), some (.ref 663), some (.int i), kk, bb]) (st' := []) (M' := M1) rfl ?_
  refine lw_st C0 hI hcc hss 1 (pc' := 983) (vs' := [some (.retAddr 0), some (.ref 0), some (.ref 633), some (.ref 663), some (.int i), kk, bb]) (st' := [.ref 633]) (M' := M1) rfl ?_
  refine lw_ld C0 hI hcc hss (pc5 := 988) (pc6 := 989) (j := i + 1) (st := [.ref 633]) rfl rfl rfl h1 ?_
  refine lw_ld C0 hI hcc hss (pc5 := 994) (pc6 := 995) (j := i + 2) (st := [.int x1, .ref 633]) rfl rfl rfl h2 ?_
  refine lw_cal C0 hI hcc hss (pc3 := 998) (rest := []) (Q := fun v M' => v = some (.int r1) ∧ M2 = M') ⟨_, _, hE2, rfl, rfl⟩ rfl (cl_126 hV1.r633 rfl) rfl ?_
  rintro v M9 ⟨rfl, rfl⟩
  refine lw_st C0 hI hcc hss 1 (pc' := 999) (vs' := [some (.retAddr 0), some (.ref 0), some (.ref 633), some (.ref 663), some (.int i), kk, bb]) (st' := []) (M' := M2) rfl ?_
  refine lw_st C0 hI hcc hss 1 (pc' := 1324) (vs' := [some (.retAddr 0), some (.ref 0), some (.ref 633), some (.ref 663), some (.int i), kk, bb]) (st' := []) (M' := M2) rfl ?_
  exact k M2 kk bb cells slots hS2 (Nat.le_succ _) (Nat.le_add_right _ _)
set_option maxRecDepth 200000 in
set_option maxHeartbeats 4000000 in
theorem lc_25 (C0 : lw_At p s m meth c b L xs) (hI : Inv s.heap.size sa cy dC dI (some sc) s) (hcc : cells ≤ 601024) (hss : slots ≤ 7293034) {i : Int32} {kk bb : Option Value} {M : Mem} (hS : SV7 M) (hx : SX sc i) (k : ∀ M' kk' bb' cells' slots', SV7 M' → cells' ≤ cells + 1 → slots' ≤ slots + 6 → Wst p l e room_1 s m #[Value.ref b] below meth c (lw_Z below #[Value.ref b] s) s.heap.size sa cy dC dI 7 cells' slots' 1324 [some (.retAddr 0), some (.ref 0), some (.ref 633), some (.ref 663), some (.int i), kk', bb'] [] M') : Wst p l e room_1 s m #[Value.ref b] below meth c (lw_Z below #[Value.ref b] s) s.heap.size sa cy dC dI 7 cells slots 1002 [some (.retAddr 0), some (.ref 0), some (.ref 633), some (.ref 663), some (.int i), kk, bb] [] M := by
  obtain ⟨⟨x1, h1⟩, ⟨x2, h2⟩, ⟨x3, h3⟩, ⟨x4, h4⟩, x5, h5⟩ := hx
  have hV0 := hS.six.1
  obtain ⟨r1, r2, M1, M2, hE1, hE2, hV1, hS2⟩ := pj_25 (x1 := x1) hS
  refine lw_st C0 hI hcc hss 1 (pc' := 1003) (vs' := [some (.retAddr 0), some (.ref 0), some (.ref 633), some (.ref 663), some (.int i), kk, bb]) (st' := [.ref 0]) (M' := M) rfl ?_
  refine lw_ld C0 hI hcc hss (pc5 := 1008) (pc6 := 1009) (j := i + 1) (st := [.ref 0]) rfl rfl rfl h1 ?_
  refine lw_cal C0 hI hcc hss (pc3 := 1012) (rest := []) (Q := fun v M' => v = some (.int r1) ∧ M1 = M') ⟨_, _, hE1, rfl, rfl⟩ rfl (cl_127 hV0.r0 rfl) rfl ?_
  rintro v M9 ⟨rfl, rfl⟩
  refine lw_st C0 hI hcc hss 1 (pc' := 1013) (vs' := [some (.retAddr 0), some (.ref 0), some (.ref 633), some (.ref 663), some (.int i), kk, bb]) (st' := []) (M' := M1) rfl ?_
  refine lw_st C0 hI hcc hss 1 (pc' := 1014) (vs' := [some (.retAddr 0), some (.ref 0), some (.ref 633), some (.ref 663), some (.int i), kk, bb]) (st' := [.ref 633]) (M' := M1) rfl ?_
  refine lw_ld C0 hI hcc hss (pc5 := 1019) (pc6 := 1020) (j := i + 1) (st := [.ref 633]) rfl rfl rfl h1 ?_
  refine lw_cal C0 hI hcc hss (pc3 := 1023) (rest := []) (Q := fun v M' => v = some (.int r2) ∧ M2 = M') ⟨_, _, hE2, rfl, rfl⟩ rfl (cl_130 hV1.r633 rfl) rfl ?_
  rintro v M9 ⟨rfl, rfl⟩
  refine lw_st C0 hI hcc hss 1 (pc' := 1024) (vs' := [some (.retAddr 0), some (.ref 0), some (.ref 633), some (.ref 663), some (.int i), kk, bb]) (st' := []) (M' := M2) rfl ?_
  refine lw_st C0 hI hcc hss 1 (pc' := 1324) (vs' := [some (.retAddr 0), some (.ref 0), some (.ref 633), some (.ref 663), some (.int i), kk, bb]) (st' := []) (M' := M2) rfl ?_
  exact k M2 kk bb cells slots hS2 (Nat.le_succ _) (Nat.le_add_right _ _)
set_option maxRecDepth 200000 in
set_option maxHeartbeats 4000000 in
theorem lc_26 (C0 : lw_At p s m meth c b L xs) (hI : Inv s.heap.size sa cy dC dI (some sc) s) (hcc : cells ≤ 601024) (hss : slots ≤ 7293034) {i : Int32} {kk bb : Option Value} {M : Mem} (hS : SV7 M) (hx : SX sc i) (k : ∀ M' kk' bb' cells' slots', SV7 M' → cells' ≤ cells + 1 → slots' ≤ slots + 6 → Wst p l e room_1 s m #[Value.ref b] below meth c (lw_Z below #[Value.ref b] s) s.heap.size sa cy dC dI 7 cells' slots' 1324 [some (.retAddr 0), some (.ref 0), some (.ref 633), some (.ref 663), some (.int i), kk', bb'] [] M') : Wst p l e room_1 s m #[Value.ref b] below meth c (lw_Z below #[Value.ref b] s) s.heap.size sa cy dC dI 7 cells slots 1027 [some (.retAddr 0), some (.ref 0), some (.ref 633), some (.ref 663), some (.int i), kk, bb] [] M := by
  obtain ⟨⟨x1, h1⟩, ⟨x2, h2⟩, ⟨x3, h3⟩, ⟨x4, h4⟩, x5, h5⟩ := hx
  have hV0 := hS.six.1
  obtain ⟨r1, M1, M2, hE1, hE2, hV1, hS2⟩ := pj_26 (x1 := x1) (x2 := x2) (x3 := x3) (x4 := x4) hS
  refine lw_st C0 hI hcc hss 1 (pc' := 1028) (vs' := [some (.retAddr 0), some (.ref 0), some (.ref 633), some (.ref 663), some (.int i), kk, bb]) (st' := [.ref 0]) (M' := M) rfl ?_
  refine lw_ld C0 hI hcc hss (pc5 := 1033) (pc6 := 1034) (j := i + 1) (st := [.ref 0]) rfl rfl rfl h1 ?_
  refine lw_ld C0 hI hcc hss (pc5 := 1039) (pc6 := 1040) (j := i + 2) (st := [.int x1, .ref 0]) rfl rfl rfl h2 ?_
  refine lw_ld C0 hI hcc hss (pc5 := 1045) (pc6 := 1046) (j := i + 3) (st := [.int x2, .int x1, .ref 0]) rfl rfl rfl h3 ?_
  refine lw_ld C0 hI hcc hss (pc5 := 1051) (pc6 := 1052) (j := i + 4) (st := [.int x3, .int x2, .int x1, .ref 0]) rfl rfl rfl h4 ?_
  refine lw_cal C0 hI hcc hss (pc3 := 1055) (rest := []) (Q := fun v M' => v = some (.int r1) ∧ M1 = M') ⟨_, _, hE1, rfl, rfl⟩ rfl (cl_131 hV0.r0 rfl) rfl ?_
  rintro v M9 ⟨rfl, rfl⟩
  refine lw_st C0 hI hcc hss 1 (pc' := 1056) (vs' := [some (.retAddr 0), some (.ref 0), some (.ref 633), some (.ref 663), some (.int i), kk, bb]) (st' := []) (M' := M1) rfl ?_
  refine lw_st C0 hI hcc hss 1 (pc' := 1057) (vs' := [some (.retAddr 0), some (.ref 0), some (.ref 633), some (.ref 663), some (.int i), kk, bb]) (st' := [.ref 633]) (M' := M1) rfl ?_
  refine lw_ld C0 hI hcc hss (pc5 := 1062) (pc6 := 1063) (j := i + 1) (st := [.ref 633]) rfl rfl rfl h1 ?_
  refine lw_ld C0 hI hcc hss (pc5 := 1068) (pc6 := 1069) (j := i + 2) (st := [.int x1, .ref 633]) rfl rfl rfl h2 ?_
  refine lw_ld C0 hI hcc hss (pc5 := 1074) (pc6 := 1075) (j := i + 3) (st := [.int x2, .int x1, .ref 633]) rfl rfl rfl h3 ?_
  refine lw_ld C0 hI hcc hss (pc5 := 1080) (pc6 := 1081) (j := i + 4) (st := [.int x3, .int x2, .int x1, .ref 633]) rfl rfl rfl h4 ?_
  refine lw_cal C0 hI hcc hss (pc3 := 1084) (rest := []) (Q := fun v M' => v = some (.int r1) ∧ M2 = M') ⟨_, _, hE2, rfl, rfl⟩ rfl (cl_134 hV1.r633 rfl) rfl ?_
  rintro v M9 ⟨rfl, rfl⟩
  refine lw_st C0 hI hcc hss 1 (pc' := 1085) (vs' := [some (.retAddr 0), some (.ref 0), some (.ref 633), some (.ref 663), some (.int i), kk, bb]) (st' := []) (M' := M2) rfl ?_
  refine lw_st C0 hI hcc hss 1 (pc' := 1324) (vs' := [some (.retAddr 0), some (.ref 0), some (.ref 633), some (.ref 663), some (.int i), kk, bb]) (st' := []) (M' := M2) rfl ?_
  exact k M2 kk bb cells slots hS2 (Nat.le_succ _) (Nat.le_add_right _ _)
set_option maxRecDepth 200000 in
set_option maxHeartbeats 4000000 in
theorem lc_27 (C0 : lw_At p s m meth c b L xs) (hI : Inv s.heap.size sa cy dC dI (some sc) s) (hcc : cells ≤ 601024) (hss : slots ≤ 7293034) {i : Int32} {kk bb : Option Value} {M : Mem} (hS : SV7 M) (hx : SX sc i) (k : ∀ M' kk' bb' cells' slots', SV7 M' → cells' ≤ cells + 1 → slots' ≤ slots + 6 → Wst p l e room_1 s m #[Value.ref b] below meth c (lw_Z below #[Value.ref b] s) s.heap.size sa cy dC dI 7 cells' slots' 1324 [some (.retAddr 0), some (.ref 0), some (.ref 633), some (.ref 663), some (.int i), kk', bb'] [] M') : Wst p l e room_1 s m #[Value.ref b] below meth c (lw_Z below #[Value.ref b] s) s.heap.size sa cy dC dI 7 cells slots 1088 [some (.retAddr 0), some (.ref 0), some (.ref 633), some (.ref 663), some (.int i), kk, bb] [] M := by
  obtain ⟨⟨x1, h1⟩, ⟨x2, h2⟩, ⟨x3, h3⟩, ⟨x4, h4⟩, x5, h5⟩ := hx
  have hV0 := hS.six.1
  obtain ⟨r1, M1, M2, hE1, hE2, hV1, hS2⟩ := pj_27 (x1 := x1) (x2 := x2) (x3 := x3) hS
  refine lw_st C0 hI hcc hss 1 (pc' := 1089) (vs' := [some (.retAddr 0), some (.ref 0), some (.ref 633), some (.ref 663), some (.int i), kk, bb]) (st' := [.ref 0]) (M' := M) rfl ?_
  refine lw_ld C0 hI hcc hss (pc5 := 1094) (pc6 := 1095) (j := i + 1) (st := [.ref 0]) rfl rfl rfl h1 ?_
  refine lw_ld C0 hI hcc hss (pc5 := 1100) (pc6 := 1101) (j := i + 2) (st := [.int x1, .ref 0]) rfl rfl rfl h2 ?_
  refine lw_ld C0 hI hcc hss (pc5 := 1106) (pc6 := 1107) (j := i + 3) (st := [.int x2, .int x1, .ref 0]) rfl rfl rfl h3 ?_
  refine lw_cal C0 hI hcc hss (pc3 := 1110) (rest := []) (Q := fun v M' => v = some (.int r1) ∧ M1 = M') ⟨_, _, hE1, rfl, rfl⟩ rfl (cl_135 hV0.r0 rfl) rfl ?_
  rintro v M9 ⟨rfl, rfl⟩
  refine lw_st C0 hI hcc hss 1 (pc' := 1111) (vs' := [some (.retAddr 0), some (.ref 0), some (.ref 633), some (.ref 663), some (.int i), kk, bb]) (st' := []) (M' := M1) rfl ?_
  refine lw_st C0 hI hcc hss 1 (pc' := 1112) (vs' := [some (.retAddr 0), some (.ref 0), some (.ref 633), some (.ref 663), some (.int i), kk, bb]) (st' := [.ref 633]) (M' := M1) rfl ?_
  refine lw_ld C0 hI hcc hss (pc5 := 1117) (pc6 := 1118) (j := i + 1) (st := [.ref 633]) rfl rfl rfl h1 ?_
  refine lw_ld C0 hI hcc hss (pc5 := 1123) (pc6 := 1124) (j := i + 2) (st := [.int x1, .ref 633]) rfl rfl rfl h2 ?_
  refine lw_ld C0 hI hcc hss (pc5 := 1129) (pc6 := 1130) (j := i + 3) (st := [.int x2, .int x1, .ref 633]) rfl rfl rfl h3 ?_
  refine lw_cal C0 hI hcc hss (pc3 := 1133) (rest := []) (Q := fun v M' => v = some (.int r1) ∧ M2 = M') ⟨_, _, hE2, rfl, rfl⟩ rfl (cl_139 hV1.r633 rfl) rfl ?_
  rintro v M9 ⟨rfl, rfl⟩
  refine lw_st C0 hI hcc hss 1 (pc' := 1134) (vs' := [some (.retAddr 0), some (.ref 0), some (.ref 633), some (.ref 663), some (.int i), kk, bb]) (st' := []) (M' := M2) rfl ?_
  refine lw_st C0 hI hcc hss 1 (pc' := 1324) (vs' := [some (.retAddr 0), some (.ref 0), some (.ref 633), some (.ref 663), some (.int i), kk, bb]) (st' := []) (M' := M2) rfl ?_
  exact k M2 kk bb cells slots hS2 (Nat.le_succ _) (Nat.le_add_right _ _)
set_option maxRecDepth 200000 in
set_option maxHeartbeats 4000000 in
theorem lc_28 (C0 : lw_At p s m meth c b L xs) (hI : Inv s.heap.size sa cy dC dI (some sc) s) (hcc : cells ≤ 601024) (hss : slots ≤ 7293034) {i : Int32} {kk bb : Option Value} {M : Mem} (hS : SV7 M) (hx : SX sc i) (k : ∀ M' kk' bb' cells' slots', SV7 M' → cells' ≤ cells + 1 → slots' ≤ slots + 6 → Wst p l e room_1 s m #[Value.ref b] below meth c (lw_Z below #[Value.ref b] s) s.heap.size sa cy dC dI 7 cells' slots' 1324 [some (.retAddr 0), some (.ref 0), some (.ref 633), some (.ref 663), some (.int i), kk', bb'] [] M') : Wst p l e room_1 s m #[Value.ref b] below meth c (lw_Z below #[Value.ref b] s) s.heap.size sa cy dC dI 7 cells slots 1137 [some (.retAddr 0), some (.ref 0), some (.ref 633), some (.ref 663), some (.int i), kk, bb] [] M := by
  obtain ⟨⟨x1, h1⟩, ⟨x2, h2⟩, ⟨x3, h3⟩, ⟨x4, h4⟩, x5, h5⟩ := hx
  have hV0 := hS.six.1
  obtain ⟨r1, r2, M1, M2, hE1, hE2, hV1, hS2⟩ := pj_28 (x1 := x1) hS
  refine lw_st C0 hI hcc hss 1 (pc' := 1138) (vs' := [some (.retAddr 0), some (.ref 0), some (.ref 633), some (.ref 663), some (.int i), kk, bb]) (st' := [.ref 0]) (M' := M) rfl ?_
  refine lw_ld C0 hI hcc hss (pc5 := 1143) (pc6 := 1144) (j := i + 1) (st := [.ref 0]) rfl rfl rfl h1 ?_
  refine lw_cal C0 hI hcc hss (pc3 := 1147) (rest := []) (Q := fun v M' => v = some (.int r1) ∧ M1 = M') ⟨_, _, hE1, rfl, rfl⟩ rfl (cl_140 hV0.r0 rfl) rfl ?_
  rintro v M9 ⟨rfl, rfl⟩
  refine lw_st C0 hI hcc hss 1 (pc' := 1148) (vs' := [some (.retAddr 0), some (.ref 0), some (.ref 633), some (.ref 663), some (.int i), kk, bb]) (st' := []) (M' := M1) rfl ?_
  refine lw_st C0 hI hcc hss 1 (pc' := 1149) (vs' := [some (.retAddr 0), some (.ref 0), some (.ref 633), some (.ref 663), some (.int i), kk, bb]) (st' := [.ref 633]) (M' := M1) rfl ?_
  refine lw_ld C0 hI hcc hss (pc5 := 1154) (pc6 := 1155) (j := i + 1) (st := [.ref 633]) rfl rfl rfl h1 ?_
  refine lw_cal C0 hI hcc hss (pc3 := 1158) (rest := []) (Q := fun v M' => v = some (.int r2) ∧ M2 = M') ⟨_, _, hE2, rfl, rfl⟩ rfl (cl_143 hV1.r633 rfl) rfl ?_
  rintro v M9 ⟨rfl, rfl⟩
  refine lw_st C0 hI hcc hss 1 (pc' := 1159) (vs' := [some (.retAddr 0), some (.ref 0), some (.ref 633), some (.ref 663), some (.int i), kk, bb]) (st' := []) (M' := M2) rfl ?_
  refine lw_st C0 hI hcc hss 1 (pc' := 1324) (vs' := [some (.retAddr 0), some (.ref 0), some (.ref 633), some (.ref 663), some (.int i), kk, bb]) (st' := []) (M' := M2) rfl ?_
  exact k M2 kk bb cells slots hS2 (Nat.le_succ _) (Nat.le_add_right _ _)
set_option maxRecDepth 200000 in
set_option maxHeartbeats 4000000 in
theorem lc_29 (C0 : lw_At p s m meth c b L xs) (hI : Inv s.heap.size sa cy dC dI (some sc) s) (hcc : cells ≤ 601024) (hss : slots ≤ 7293034) {i : Int32} {kk bb : Option Value} {M : Mem} (hS : SV7 M) (hx : SX sc i) (k : ∀ M' kk' bb' cells' slots', SV7 M' → cells' ≤ cells + 1 → slots' ≤ slots + 6 → Wst p l e room_1 s m #[Value.ref b] below meth c (lw_Z below #[Value.ref b] s) s.heap.size sa cy dC dI 7 cells' slots' 1324 [some (.retAddr 0), some (.ref 0), some (.ref 633), some (.ref 663), some (.int i), kk', bb'] [] M') : Wst p l e room_1 s m #[Value.ref b] below meth c (lw_Z below #[Value.ref b] s) s.heap.size sa cy dC dI 7 cells slots 1162 [some (.retAddr 0), some (.ref 0), some (.ref 633), some (.ref 663), some (.int i), kk, bb] [] M := by
  obtain ⟨⟨x1, h1⟩, ⟨x2, h2⟩, ⟨x3, h3⟩, ⟨x4, h4⟩, x5, h5⟩ := hx
  have hV0 := hS.six.1
  obtain ⟨r1, r2, M1, M2, hE1, hE2, hV1, hS2⟩ := pj_29 hS
  refine lw_st C0 hI hcc hss 1 (pc' := 1163) (vs' := [some (.retAddr 0), some (.ref 0), some (.ref 633), some (.ref 663), some (.int i), kk, bb]) (st' := [.ref 0]) (M' := M) rfl ?_
  refine lw_cal C0 hI hcc hss (pc3 := 1166) (rest := []) (Q := fun v M' => v = some (.int r1) ∧ M1 = M') ⟨_, _, hE1, rfl, rfl⟩ rfl (cl_144 hV0.r0 rfl) rfl ?_
  rintro v M9 ⟨rfl, rfl⟩
  refine lw_st C0 hI hcc hss 1 (pc' := 1167) (vs' := [some (.retAddr 0), some (.ref 0), some (.ref 633), some (.ref 663), some (.int i), kk, bb]) (st' := []) (M' := M1) rfl ?_
  refine lw_st C0 hI hcc hss 1 (pc' := 1168) (vs' := [some (.retAddr 0), some (.ref 0), some (.ref 633), some (.ref 663), some (.int i), kk, bb]) (st' := [.ref 633]) (M' := M1) rfl ?_
  refine lw_cal C0 hI hcc hss (pc3 := 1171) (rest := []) (Q := fun v M' => v = some (.int r2) ∧ M2 = M') ⟨_, _, hE2, rfl, rfl⟩ rfl (cl_147 hV1.r633 rfl) rfl ?_
  rintro v M9 ⟨rfl, rfl⟩
  refine lw_st C0 hI hcc hss 1 (pc' := 1172) (vs' := [some (.retAddr 0), some (.ref 0), some (.ref 633), some (.ref 663), some (.int i), kk, bb]) (st' := []) (M' := M2) rfl ?_
  refine lw_st C0 hI hcc hss 1 (pc' := 1324) (vs' := [some (.retAddr 0), some (.ref 0), some (.ref 633), some (.ref 663), some (.int i), kk, bb]) (st' := []) (M' := M2) rfl ?_
  exact k M2 kk bb cells slots hS2 (Nat.le_succ _) (Nat.le_add_right _ _)
set_option maxRecDepth 200000 in
set_option maxHeartbeats 4000000 in
theorem lc_30 (C0 : lw_At p s m meth c b L xs) (hI : Inv s.heap.size sa cy dC dI (some sc) s) (hcc : cells ≤ 601024) (hss : slots ≤ 7293034) {i : Int32} {kk bb : Option Value} {M : Mem} (hS : SV7 M) (hx : SX sc i) (k : ∀ M' kk' bb' cells' slots', SV7 M' → cells' ≤ cells + 1 → slots' ≤ slots + 6 → Wst p l e room_1 s m #[Value.ref b] below meth c (lw_Z below #[Value.ref b] s) s.heap.size sa cy dC dI 7 cells' slots' 1324 [some (.retAddr 0), some (.ref 0), some (.ref 633), some (.ref 663), some (.int i), kk', bb'] [] M') : Wst p l e room_1 s m #[Value.ref b] below meth c (lw_Z below #[Value.ref b] s) s.heap.size sa cy dC dI 7 cells slots 1175 [some (.retAddr 0), some (.ref 0), some (.ref 633), some (.ref 663), some (.int i), kk, bb] [] M := by
  obtain ⟨⟨x1, h1⟩, ⟨x2, h2⟩, ⟨x3, h3⟩, ⟨x4, h4⟩, x5, h5⟩ := hx
  have hV0 := hS.six.1
  obtain ⟨r1, r2, M1, M2, hE1, hE2, hV1, hS2⟩ := pj_30 (x1 := x1) (x2 := x2) hS
  refine lw_st C0 hI hcc hss 1 (pc' := 1176) (vs' := [some (.retAddr 0), some (.ref 0), some (.ref 633), some (.ref 663), some (.int i), kk, bb]) (st' := [.ref 0]) (M' := M) rfl ?_
  refine lw_ld C0 hI hcc hss (pc5 := 1181) (pc6 := 1182) (j := i + 1) (st := [.ref 0]) rfl rfl rfl h1 ?_
  refine lw_ld C0 hI hcc hss (pc5 := 1187) (pc6 := 1188) (j := i + 2) (st := [.int x1, .ref 0]) rfl rfl rfl h2 ?_
  refine lw_cal C0 hI hcc hss (pc3 := 1191) (rest := []) (Q := fun v M' => v = some (.int r1) ∧ M1 = M') ⟨_, _, hE1, rfl, rfl⟩ rfl (cl_148 hV0.r0 rfl) rfl ?_
  rintro v M9 ⟨rfl, rfl⟩
  refine lw_st C0 hI hcc hss 1 (pc' := 1192) (vs' := [some (.retAddr 0), some (.ref 0), some (.ref 633), some (.ref 663), some (.int i), kk, bb]) (st' := []) (M' := M1) rfl ?_
  refine lw_st C0 hI hcc hss 1 (pc' := 1193) (vs' := [some (.retAddr 0), some (.ref 0), some (.ref 633), some (.ref 663), some (.int i), kk, bb]) (st' := [.ref 633]) (M' := M1) rfl ?_
  refine lw_ld C0 hI hcc hss (pc5 := 1198) (pc6 := 1199) (j := i + 1) (st := [.ref 633]) rfl rfl rfl h1 ?_
  refine lw_ld C0 hI hcc hss (pc5 := 1204) (pc6 := 1205) (j := i + 2) (st := [.int x1, .ref 633]) rfl rfl rfl h2 ?_
  refine lw_cal C0 hI hcc hss (pc3 := 1208) (rest := []) (Q := fun v M' => v = some (.int r2) ∧ M2 = M') ⟨_, _, hE2, rfl, rfl⟩ rfl (cl_151 hV1.r633 rfl) rfl ?_
  rintro v M9 ⟨rfl, rfl⟩
  refine lw_st C0 hI hcc hss 1 (pc' := 1209) (vs' := [some (.retAddr 0), some (.ref 0), some (.ref 633), some (.ref 663), some (.int i), kk, bb]) (st' := []) (M' := M2) rfl ?_
  refine lw_st C0 hI hcc hss 1 (pc' := 1324) (vs' := [some (.retAddr 0), some (.ref 0), some (.ref 633), some (.ref 663), some (.int i), kk, bb]) (st' := []) (M' := M2) rfl ?_
  exact k M2 kk bb cells slots hS2 (Nat.le_succ _) (Nat.le_add_right _ _)
set_option maxRecDepth 200000 in
set_option maxHeartbeats 4000000 in
theorem lc_31 (C0 : lw_At p s m meth c b L xs) (hI : Inv s.heap.size sa cy dC dI (some sc) s) (hcc : cells ≤ 601024) (hss : slots ≤ 7293034) {i : Int32} {kk bb : Option Value} {M : Mem} (hS : SV7 M) (hx : SX sc i) (k : ∀ M' kk' bb' cells' slots', SV7 M' → cells' ≤ cells + 1 → slots' ≤ slots + 6 → Wst p l e room_1 s m #[Value.ref b] below meth c (lw_Z below #[Value.ref b] s) s.heap.size sa cy dC dI 7 cells' slots' 1324 [some (.retAddr 0), some (.ref 0), some (.ref 633), some (.ref 663), some (.int i), kk', bb'] [] M') : Wst p l e room_1 s m #[Value.ref b] below meth c (lw_Z below #[Value.ref b] s) s.heap.size sa cy dC dI 7 cells slots 1212 [some (.retAddr 0), some (.ref 0), some (.ref 633), some (.ref 663), some (.int i), kk, bb] [] M := by
  obtain ⟨⟨x1, h1⟩, ⟨x2, h2⟩, ⟨x3, h3⟩, ⟨x4, h4⟩, x5, h5⟩ := hx
  have hV0 := hS.six.1
  obtain ⟨r1, r2, M1, M2, hE1, hE2, hV1, hS2⟩ := pj_31 (x1 := x1) (x2 := x2) hS
  refine lw_st C0 hI hcc hss 1 (pc' := 1213) (vs' := [some (.retAddr 0), some (.ref 0), some (.ref 633), some (.ref 663), some (.int i), kk, bb]) (st' := [.ref 0]) (M' := M) rfl ?_
  refine lw_ld C0 hI hcc hss (pc5 := 1218) (pc6 := 1219) (j := i + 1) (st := [.ref 0]) rfl rfl rfl h1 ?_
  refine lw_ld C0 hI hcc hss (pc5 := 1224) (pc6 := 1225) (j := i + 2) (st := [.int x1, .ref 0]) rfl rfl rfl h2 ?_
  refine lw_cal C0 hI hcc hss (pc3 := 1228) (rest := []) (Q := fun v M' => v = some (.int r1) ∧ M1 = M') ⟨_, _, hE1, rfl, rfl⟩ rfl (cl_152 hV0.r0 rfl) rfl ?_
  rintro v M9 ⟨rfl, rfl⟩
  refine lw_st C0 hI hcc hss 1 (pc' := 1229) (vs' := [some (.retAddr 0), some (.ref 0), some (.ref 633), some (.ref 663), some (.int i), kk, bb]) (st' := []) (M' := M1) rfl ?_
  refine lw_st C0 hI hcc hss 1 (pc' := 1230) (vs' := [some (.retAddr 0), some (.ref 0), some (.ref 633), some (.ref 663), some (.int i), kk, bb]) (st' := [.ref 633]) (M' := M1) rfl ?_
  refine lw_ld C0 hI hcc hss (pc5 := 1235) (pc6 := 1236) (j := i + 1) (st := [.ref 633]) rfl rfl rfl h1 ?_
  refine lw_ld C0 hI hcc hss (pc5 := 1241) (pc6 := 1242) (j := i + 2) (st := [.int x1, .ref 633]) rfl rfl rfl h2 ?_
  refine lw_cal C0 hI hcc hss (pc3 := 1245) (rest := []) (Q := fun v M' => v = some (.int r2) ∧ M2 = M') ⟨_, _, hE2, rfl, rfl⟩ rfl (cl_155 hV1.r633 rfl) rfl ?_
  rintro v M9 ⟨rfl, rfl⟩
  refine lw_st C0 hI hcc hss 1 (pc' := 1246) (vs' := [some (.retAddr 0), some (.ref 0), some (.ref 633), some (.ref 663), some (.int i), kk, bb]) (st' := []) (M' := M2) rfl ?_
  refine lw_st C0 hI hcc hss 1 (pc' := 1324) (vs' := [some (.retAddr 0), some (.ref 0), some (.ref 633), some (.ref 663), some (.int i), kk, bb]) (st' := []) (M' := M2) rfl ?_
  exact k M2 kk bb cells slots hS2 (Nat.le_succ _) (Nat.le_add_right _ _)
set_option maxRecDepth 200000 in
set_option maxHeartbeats 4000000 in
theorem lc_32 (C0 : lw_At p s m meth c b L xs) (hI : Inv s.heap.size sa cy dC dI (some sc) s) (hcc : cells ≤ 601024) (hss : slots ≤ 7293034) {i : Int32} {kk bb : Option Value} {M : Mem} (hS : SV7 M) (hx : SX sc i) (k : ∀ M' kk' bb' cells' slots', SV7 M' → cells' ≤ cells + 1 → slots' ≤ slots + 6 → Wst p l e room_1 s m #[Value.ref b] below meth c (lw_Z below #[Value.ref b] s) s.heap.size sa cy dC dI 7 cells' slots' 1324 [some (.retAddr 0), some (.ref 0), some (.ref 633), some (.ref 663), some (.int i), kk', bb'] [] M') : Wst p l e room_1 s m #[Value.ref b] below meth c (lw_Z below #[Value.ref b] s) s.heap.size sa cy dC dI 7 cells slots 1249 [some (.retAddr 0), some (.ref 0), some (.ref 633), some (.ref 663), some (.int i), kk, bb] [] M := by
  obtain ⟨⟨x1, h1⟩, ⟨x2, h2⟩, ⟨x3, h3⟩, ⟨x4, h4⟩, x5, h5⟩ := hx
  have hV0 := hS.six.1
  obtain ⟨r1, M1, M2, hE1, hE2, hV1, hS2⟩ := pj_32 (x1 := x1) hS
  refine lw_st C0 hI hcc hss 1 (pc' := 1250) (vs' := [some (.retAddr 0), some (.ref 0), some (.ref 633), some (.ref 663), some (.int i), kk, bb]) (st' := [.ref 0]) (M' := M) rfl ?_
  refine lw_ld C0 hI hcc hss (pc5 := 1255) (pc6 := 1256) (j := i + 1) (st := [.ref 0]) rfl rfl rfl h1 ?_
  refine lw_cal C0 hI hcc hss (pc3 := 1259) (rest := []) (Q := fun v M' => v = some (.int r1) ∧ M1 = M') ⟨_, _, hE1, rfl, rfl⟩ rfl (cl_156 hV0.r0 rfl) rfl ?_
  rintro v M9 ⟨rfl, rfl⟩
  refine lw_st C0 hI hcc hss 1 (pc' := 1260) (vs' := [some (.retAddr 0), some (.ref 0), some (.ref 633), some (.ref 663), some (.int i), kk, bb]) (st' := []) (M' := M1) rfl ?_
  refine lw_st C0 hI hcc hss 1 (pc' := 1261) (vs' := [some (.retAddr 0), some (.ref 0), some (.ref 633), some (.ref 663), some (.int i), kk, bb]) (st' := [.ref 633]) (M' := M1) rfl ?_
  refine lw_ld C0 hI hcc hss (pc5 := 1266) (pc6 := 1267) (j := i + 1) (st := [.ref 633]) rfl rfl rfl h1 ?_
  refine lw_cal C0 hI hcc hss (pc3 := 1270) (rest := []) (Q := fun v M' => v = some (.int r1) ∧ M2 = M') ⟨_, _, hE2, rfl, rfl⟩ rfl (cl_159 hV1.r633 rfl) rfl ?_
  rintro v M9 ⟨rfl, rfl⟩
  refine lw_st C0 hI hcc hss 1 (pc' := 1271) (vs' := [some (.retAddr 0), some (.ref 0), some (.ref 633), some (.ref 663), some (.int i), kk, bb]) (st' := []) (M' := M2) rfl ?_
  refine lw_st C0 hI hcc hss 1 (pc' := 1324) (vs' := [some (.retAddr 0), some (.ref 0), some (.ref 633), some (.ref 663), some (.int i), kk, bb]) (st' := []) (M' := M2) rfl ?_
  exact k M2 kk bb cells slots hS2 (Nat.le_succ _) (Nat.le_add_right _ _)
set_option maxRecDepth 200000 in
set_option maxHeartbeats 4000000 in
theorem lc_33 (C0 : lw_At p s m meth c b L xs) (hI : Inv s.heap.size sa cy dC dI (some sc) s) (hcc : cells ≤ 601024) (hss : slots ≤ 7293034) {i : Int32} {kk bb : Option Value} {M : Mem} (hS : SV7 M) (hx : SX sc i) (k : ∀ M' kk' bb' cells' slots', SV7 M' → cells' ≤ cells + 1 → slots' ≤ slots + 6 → Wst p l e room_1 s m #[Value.ref b] below meth c (lw_Z below #[Value.ref b] s) s.heap.size sa cy dC dI 7 cells' slots' 1324 [some (.retAddr 0), some (.ref 0), some (.ref 633), some (.ref 663), some (.int i), kk', bb'] [] M') : Wst p l e room_1 s m #[Value.ref b] below meth c (lw_Z below #[Value.ref b] s) s.heap.size sa cy dC dI 7 cells slots 1274 [some (.retAddr 0), some (.ref 0), some (.ref 633), some (.ref 663), some (.int i), kk, bb] [] M := by
  obtain ⟨⟨x1, h1⟩, ⟨x2, h2⟩, ⟨x3, h3⟩, ⟨x4, h4⟩, x5, h5⟩ := hx
  have hV0 := hS.six.1
  obtain ⟨r1, M1, M2, hE1, hE2, hV1, hS2⟩ := pj_33 (x1 := x1) hS
  refine lw_st C0 hI hcc hss 1 (pc' := 1275) (vs' := [some (.retAddr 0), some (.ref 0), some (.ref 633), some (.ref 663), some (.int i), kk, bb]) (st' := [.ref 0]) (M' := M) rfl ?_
  refine lw_ld C0 hI hcc hss (pc5 := 1280) (pc6 := 1281) (j := i + 1) (st := [.ref 0]) rfl rfl rfl h1 ?_
  refine lw_cal C0 hI hcc hss (pc3 := 1284) (rest := []) (Q := fun v M' => v = some (.int r1) ∧ M1 = M') ⟨_, _, hE1, rfl, rfl⟩ rfl (cl_160 hV0.r0 rfl) rfl ?_
  rintro v M9 ⟨rfl, rfl⟩
  refine lw_st C0 hI hcc hss 1 (pc' := 1285) (vs' := [some (.retAddr 0), some (.ref 0), some (.ref 633), some (.ref 663), some (.int i), kk, bb]) (st' := []) (M' := M1) rfl ?_
  refine lw_st C0 hI hcc hss 1 (pc' := 1286) (vs' := [some (.retAddr 0), some (.ref 0), some (.ref 633), some (.ref 663), some (.int i), kk, bb]) (st' := [.ref 633]) (M' := M1) rfl ?_
  refine lw_ld C0 hI hcc hss (pc5 := 1291) (pc6 := 1292) (j := i + 1) (st := [.ref 633]) rfl rfl rfl h1 ?_
  refine lw_cal C0 hI hcc hss (pc3 := 1295) (rest := []) (Q := fun v M' => v = some (.int r1) ∧ M2 = M') ⟨_, _, hE2, rfl, rfl⟩ rfl (cl_163 hV1.r633 rfl) rfl ?_
  rintro v M9 ⟨rfl, rfl⟩
  refine lw_st C0 hI hcc hss 1 (pc' := 1296) (vs' := [some (.retAddr 0), some (.ref 0), some (.ref 633), some (.ref 663), some (.int i), kk, bb]) (st' := []) (M' := M2) rfl ?_
  refine lw_st C0 hI hcc hss 1 (pc' := 1324) (vs' := [some (.retAddr 0), some (.ref 0), some (.ref 633), some (.ref 663), some (.int i), kk, bb]) (st' := []) (M' := M2) rfl ?_
  exact k M2 kk bb cells slots hS2 (Nat.le_succ _) (Nat.le_add_right _ _)
set_option maxRecDepth 200000 in
set_option maxHeartbeats 4000000 in
theorem lc_34 (C0 : lw_At p s m meth c b L xs) (hI : Inv s.heap.size sa cy dC dI (some sc) s) (hcc : cells ≤ 601024) (hss : slots ≤ 7293034) {i : Int32} {kk bb : Option Value} {M : Mem} (hS : SV7 M) (hx : SX sc i) (k : ∀ M' kk' bb' cells' slots', SV7 M' → cells' ≤ cells + 1 → slots' ≤ slots + 6 → Wst p l e room_1 s m #[Value.ref b] below meth c (lw_Z below #[Value.ref b] s) s.heap.size sa cy dC dI 7 cells' slots' 1324 [some (.retAddr 0), some (.ref 0), some (.ref 633), some (.ref 663), some (.int i), kk', bb'] [] M') : Wst p l e room_1 s m #[Value.ref b] below meth c (lw_Z below #[Value.ref b] s) s.heap.size sa cy dC dI 7 cells slots 1299 [some (.retAddr 0), some (.ref 0), some (.ref 633), some (.ref 663), some (.int i), kk, bb] [] M := by
  obtain ⟨⟨x1, h1⟩, ⟨x2, h2⟩, ⟨x3, h3⟩, ⟨x4, h4⟩, x5, h5⟩ := hx
  have hV0 := hS.six.1
  obtain ⟨r1, M1, M2, hE1, hE2, hV1, hS2⟩ := pj_34 (x1 := x1) hS
  refine lw_st C0 hI hcc hss 1 (pc' := 1300) (vs' := [some (.retAddr 0), some (.ref 0), some (.ref 633), some (.ref 663), some (.int i), kk, bb]) (st' := [.ref 0]) (M' := M) rfl ?_
  refine lw_ld C0 hI hcc hss (pc5 := 1305) (pc6 := 1306) (j := i + 1) (st := [.ref 0]) rfl rfl rfl h1 ?_
  refine lw_cal C0 hI hcc hss (pc3 := 1309) (rest := []) (Q := fun v M' => v = some (.int r1) ∧ M1 = M') ⟨_, _, hE1, rfl, rfl⟩ rfl (cl_164 hV0.r0 rfl) rfl ?_
  rintro v M9 ⟨rfl, rfl⟩
  refine lw_st C0 hI hcc hss 1 (pc' := 1310) (vs' := [some (.retAddr 0), some (.ref 0), some (.ref 633), some (.ref 663), some (.int i), kk, bb]) (st' := [.ref 633, .int r1]) (M' := M1) rfl ?_
  refine lw_ld C0 hI hcc hss (pc5 := 1315) (pc6 := 1316) (j := i + 1) (st := [.ref 633, .int r1]) rfl rfl rfl h1 ?_
  refine lw_cal C0 hI hcc hss (pc3 := 1319) (rest := [.int r1]) (Q := fun v M' => v = some (.int r1) ∧ M2 = M') ⟨_, _, hE2, rfl, rfl⟩ rfl (cl_167 hV1.r633 rfl) rfl ?_
  rintro v M9 ⟨rfl, rfl⟩
  refine lw_st C0 hI hcc hss 1 (pc' := if r1 = r1 then 1324 else 1322) (vs' := [some (.retAddr 0), some (.ref 0), some (.ref 633), some (.ref 663), some (.int i), kk, bb]) (st' := []) (M' := M2) rfl ?_
  rw [if_pos rfl]
  exact k M2 kk bb cells slots hS2 (Nat.le_succ _) (Nat.le_add_right _ _)
set_option maxHeartbeats 8000000 in
set_option maxRecDepth 200000 in
theorem cell_call {x1 x2 : Int32} {i : Int32} {kk bb : Option Value} (C0 : lw_At p s m meth c b L xs) (hI : Inv s.heap.size sa cy dC dI (some sc) s) {M M1 : Mem} {k : Int32} {mc ms : Nat} (hM : Met l yL_cell (.codeWith yL_cell cL_cell 5 (some .int) [(0, 10, 13, 13)] :: W0) ({ frames := 1007, cells := mc, slots := ms, locals := 40280 }) (PcX s.heap.size sa cy dC dI (some sc) [.ref 0, .int x1, .int x2, .ref 663] M) (Qcw s.heap.size sa cy dC dI (some (.int k)) M1) mc ms (fun q => s.heap.size ≤ q)) (hl1 : M1.length = M.length + mc) (hc : cells + mc ≤ 601024) (hs : slots + ms ≤ 7293034)
    (kq : Wst p l e room_1 s m #[Value.ref b] below meth c (lw_Z below #[Value.ref b] s) s.heap.size sa cy dC dI 7 (cells + mc) (slots + ms) 633 [some (.retAddr 0), some (.ref 0), some (.ref 633), some (.ref 663), some (.int i), kk, bb] [.int k] M1) : Wst p l e room_1 s m #[Value.ref b] below meth c (lw_Z below #[Value.ref b] s) s.heap.size sa cy dC dI 7 cells slots 630 [some (.retAddr 0), some (.ref 0), some (.ref 633), some (.ref 663), some (.int i), kk, bb] [.ref 663, .int x2, .int x1, .ref 0] M := by
  obtain ⟨hx, hb, hr, hml, hown, hts, hX, hbl, hlocks, hgv⟩ := C0
  have htw : ∀ w ∈ W0, w.before #[Value.ref b] s = true := fun w hw => hts w (w0_lw w hw)
  have hXt := xtr_of hts hgv
  intro H locs ls hP hS hsz hL
  refine W.sz (fun hz => ?_)
  have hH := world_size hI hP hS hsz hz
  obtain ⟨-, l9, h9, -⟩ := id hL
  have hpre : PreS s H (PcX s.heap.size sa cy dC dI (some sc) [.ref 0, .int x1, .int x2, .ref 663] M) ([.ref (s.heap.size + 0), .int x1, .int x2, .ref (s.heap.size + 663)] : List Value) := by
    obtain ⟨-, p3⟩ := pre_s (M := M) (as := [.ref 0, .int x1, .int x2, .ref 663]) hI hP hS hH
    refine ⟨pcx_blind, fun U hU hW => ⟨p3 U hU hW, hXt.next hW (fun a ha => ?_)⟩⟩
    rw [hU]
    exact hS.2.1 a ha (Nat.not_le.mpr ha)
  have hd : (parseMethodDescriptor yL_cell.desc).map (fun d => d.parameters.length) = some 4 := by decide +kernel
  have cw : vx_CSW room_1 s #[Value.ref b] RL 80 yL_cell cL_cell 5 (some .int) [(0, 10, 13, 13)] (.codeWith yL_cell cL_cell 5 (some .int) [(0, 10, 13, 13)] :: W0) ({ frames := 1007, cells := mc, slots := ms, locals := 40280 }) mc ms 4 :=
    ⟨⟨rfl, rfl, Nat.le_of_ble_eq_true rfl, Nat.le_of_ble_eq_true rfl, pay_in htw (goodW0 ew_1), List.mem_cons_self⟩, htw _ ew_1, htw _ ew_4, ⟨by decide +kernel, by decide +kernel⟩, fun sig h => by
      have h2 := hd
      rw [h] at h2
      exact (Option.some.inj h2).symm, htw _ ew_2, htw _ ew_3⟩
  exact back_ok (rest := []) (vx_runSW (As := [.ref (s.heap.size + 0), .int x1, .int x2, .ref (s.heap.size + 663)]) (rest := []) (cc := code) (nL := 7) ⟨hx, hb, hml, hown, htw⟩ hM cw hpre rfl rfl h9.1 rfl (show 0 + 0 ≤ 8 by decide) d_law630 ⟨hc, hs⟩) hS (fun H1 locs1 hP1 hS1 => kq H1 locs1 ls hP1 hS1 (by rw [hl1]; omega) hL)
set_option maxRecDepth 200000 in
set_option maxHeartbeats 4000000 in
theorem lc_14b (C0 : lw_At p s m meth c b L xs) (hI : Inv s.heap.size sa cy dC dI (some sc) s) (hcc : cells ≤ 601024) (hss : slots ≤ 7293034) {i x1 x2 r : Int32} {kk bb : Option Value} {M : Mem} (hS : SV7 M) (h1 : gAt sc (i + 1) = some x1) (h2 : gAt sc (i + 2) = some x2) (k : ∀ M' kk' bb', SV7 M' → Wst p l e room_1 s m #[Value.ref b] below meth c (lw_Z below #[Value.ref b] s) s.heap.size sa cy dC dI 7 cells slots 1324 [some (.retAddr 0), some (.ref 0), some (.ref 633), some (.ref 663), some (.int i), kk', bb'] [] M') : Wst p l e room_1 s m #[Value.ref b] below meth c (lw_Z below #[Value.ref b] s) s.heap.size sa cy dC dI 7 cells slots 633 [some (.retAddr 0), some (.ref 0), some (.ref 633), some (.ref 663), some (.int i), kk, bb] [.int r] M := by
  have hV0 := hS.six.1
  obtain ⟨r1, M1, hE1, hS1⟩ := pj_14 (x1 := x1) (x2 := x2) hS
  refine lw_st C0 hI hcc hss 2 (pc' := 636) (vs' := [some (.retAddr 0), some (.ref 0), some (.ref 633), some (.ref 663), some (.int i), some (.int r), bb]) (st' := [.ref 633]) (M' := M) rfl ?_
  refine lw_ld C0 hI hcc hss (pc5 := 641) (pc6 := 642) (j := i + 1) (st := [.ref 633]) rfl rfl rfl h1 ?_
  refine lw_ld C0 hI hcc hss (pc5 := 647) (pc6 := 648) (j := i + 2) (st := [.int x1, .ref 633]) rfl rfl rfl h2 ?_
  refine lw_cal C0 hI hcc hss (pc3 := 651) (rest := []) (Q := fun v M' => v = some (.int r1) ∧ M1 = M') ⟨_, _, hE1, rfl, rfl⟩ rfl (cl_85 hV0.r633 rfl) rfl ?_
  rintro v M9 ⟨rfl, rfl⟩
  refine lw_st C0 hI hcc hss 2 (pc' := 1324) (vs' := [some (.retAddr 0), some (.ref 0), some (.ref 633), some (.ref 663), some (.int i), some (.int r), some (.int r1)]) (st' := []) (M' := M1) rfl ?_
  exact k M1 _ _ hS1
set_option maxRecDepth 200000 in
set_option maxHeartbeats 4000000 in
theorem lc_14 (hst : l.stackTraces = false) (C0 : lw_At p s m meth c b L xs) (hI : Inv s.heap.size sa cy dC dI (some sc) s) (hcc : cells + 1 ≤ 601024) (hss : slots + 6 ≤ 7293034) {i : Int32} {kk bb : Option Value} {M : Mem} (hS : SV7 M) (hx : SX sc i) (k : ∀ M' kk' bb' cells' slots', SV7 M' → cells' ≤ cells + 1 → slots' ≤ slots + 6 → Wst p l e room_1 s m #[Value.ref b] below meth c (lw_Z below #[Value.ref b] s) s.heap.size sa cy dC dI 7 cells' slots' 1324 [some (.retAddr 0), some (.ref 0), some (.ref 633), some (.ref 663), some (.int i), kk', bb'] [] M') : Wst p l e room_1 s m #[Value.ref b] below meth c (lw_Z below #[Value.ref b] s) s.heap.size sa cy dC dI 7 cells slots 616 [some (.retAddr 0), some (.ref 0), some (.ref 633), some (.ref 663), some (.int i), kk, bb] [] M := by
  obtain ⟨⟨x1, h1⟩, ⟨x2, h2⟩, _⟩ := hx
  have hV := hS.six.1
  have hc0 : cells ≤ 601024 := by omega
  have hs0 : slots ≤ 7293034 := by omega
  refine lw_st C0 hI hc0 hs0 1 (pc' := 617) (vs' := [some (.retAddr 0), some (.ref 0), some (.ref 633), some (.ref 663), some (.int i), kk, bb]) (st' := [.ref 0]) (M' := M) rfl ?_
  refine lw_ld C0 hI hc0 hs0 (pc5 := 622) (pc6 := 623) (j := i + 1) (st := [.ref 0]) rfl rfl rfl h1 ?_
  refine lw_ld C0 hI hc0 hs0 (pc5 := 628) (pc6 := 629) (j := i + 2) (st := [.int x1, .ref 0]) rfl rfl rfl h2 ?_
  refine lw_st C0 hI hc0 hs0 1 (pc' := 630) (vs' := [some (.retAddr 0), some (.ref 0), some (.ref 633), some (.ref 663), some (.int i), kk, bb]) (st' := [.ref 663, .int x2, .int x1, .ref 0]) (M' := M) rfl ?_
  have hlib := lib_ok l s.heap.size sa cy dC dI (some sc)
  have thr : Out M x1 x2 → Wst p l e room_1 s m #[Value.ref b] below meth c (lw_Z below #[Value.ref b] s) s.heap.size sa cy dC dI 7 cells slots 630 [some (.retAddr 0), some (.ref 0), some (.ref 633), some (.ref 663), some (.int i), kk, bb] [.ref 663, .int x2, .int x1, .ref 0] M := fun ho =>
    cell_call C0 hI (met_Lthrow hst hlib hV.r0 ho) (by rw [List.length_append]; rfl) hcc hss (lc_14b C0 hI hcc hss (hS.app _) h1 h2 (fun M' kk' bb' hV' => k M' kk' bb' _ _ hV' (Nat.le_refl _) (Nat.le_refl _)))
  rcases isc_g hV.1 x1 with h9 | ⟨h9, c0, c1⟩
  · exact thr (Or.inl h9)
  by_cases g2 : x2 < 0
  · exact thr (Or.inr ⟨h9, within_lo g2⟩)
  by_cases g3 : 8 < x2
  · exact thr (Or.inr ⟨h9, within_hi g2 g3⟩)
  obtain ⟨kn, b1, b2, b3, rfl⟩ := nat_of g2 g3 (by decide)
  have c2 : (8 : Int32).toInt = 8 := by decide
  have hk : kn < 9 := by omega
  obtain ⟨n9, j9, pc9, v, t1, t2⟩ := ct_all (SA := some sc) hV c0 c1 hk
  obtain ⟨lo, o1, o2, o3⟩ := hS.out
  exact cell_call (mc := 0) (ms := 0) C0 hI (met_Lans hlib hV.r0 h9 hk t1 t2 o1 o2) (put_len _ _ _) hc0 hs0 (lc_14b C0 hI hc0 hs0 (o3 _) h1 h2 (fun M' kk' bb' hV' => k M' kk' bb' _ _ hV' (Nat.le_succ _) (Nat.le_add_right _ _)))
end LWP
