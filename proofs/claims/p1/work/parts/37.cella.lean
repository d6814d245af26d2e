/-! The law's cell, where the class answers -/
theorem gat_rep {n : Nat} {v x : Int32} (h0 : ¬ x < 0) (h1 : x.toNatClampNeg < n) : gAt (gRep n v) x = some v := by
  unfold gAt
  rw [decide_eq_false h0]
  show gNth (gRep n v) x.toNatClampNeg = some v
  rw [nth_eq, rep_eq, List.getElem?_replicate, if_pos h1]
theorem get_ald {SA : Sta} {o : Nat} {ini : Bool} {r : List Value} {M : Mem} {a N : Nat} {j : Int32} (hM : gNth M a = some (.inl (1, .inl (gRep N 0)))) (h0 : ¬ j < 0) (h1 : j.toNatClampNeg < N) : gGet .iaload SA o ini (.int j :: .ref a :: r) M = some (.int 0 :: r, M) := by
  show (match gNth M a with
      | some (.inl (1, .inl l)) => match gAt l j with
        | some x => some (Value.int x :: r, M)
        | none => none
      | _ => none) = _
  rw [hM]
  show (match gAt (gRep N 0) j with
        | some x => some (Value.int x :: r, M)
        | none => none) = _
  rw [gat_rep h0 h1]
theorem one_ald {SA : Sta} {n d o kf : Nat} {tab : List (Nat × Nat × Instr)} {pc : Nat} {ls : Lo} {r : List Value} {M : Mem} {a N : Nat} {j : Int32} (hl : gLook tab pc = some (3, .iaload)) (hM : gNth M a = some (.inl (1, .inl (gRep N 0)))) (h0 : ¬ j < 0) (h1 : j.toNatClampNeg < N) : gOne SA n d o kf tab pc ls (.int j :: .ref a :: r) M = some (pc + 1, ls, .int 0 :: r, M, 0, 0) := by
  unfold gOne
  rw [hl]
  dsimp only
  rw [get_ald hM h0 h1]
  rfl
theorem go_ald {SA : Sta} {n d me pc : Nat} {ls : Lo} {r : List Value} {M : Mem} {a N : Nat} {j : Int32} {q : MR} (hrow : gNth mRs me = some q) (hl : gLook q.2.2.2.2.2.2.2 pc = some (3, .iaload)) (hM : gNth M a = some (.inl (1, .inl (gRep N 0)))) (h0 : ¬ j < 0) (h1 : j.toNatClampNeg < N) : go SA (n + 1) d me pc ls (.int j :: .ref a :: r) M = go SA n d me (pc + 1) ls (.int 0 :: r) M := by
  obtain ⟨o2', a1, a2, maxL', a3, np', kf', tab⟩ := q
  rw [go_succ]
  unfold gStep
  rw [hrow]
  dsimp only at hl ⊢
  rw [hl]
  dsimp only
  rw [get_ald hM h0 h1]
  rfl
theorem small_of {x : Int32} (h0 : ¬ x < 0) (h1 : ¬ 15 < x) : x.toNatClampNeg < 256 := by
  simp only [Int32.lt_iff_toInt_lt] at h0 h1
  have el : (0 : Int32).toInt = 0 := by decide
  have eh : (15 : Int32).toInt = 15 := by decide
  show x.toInt.toNat < 256
  omega
theorem within_lo {sc : Sta} {e : Nat} {M : Mem} {x lo hi : Int32} (h1 : x < lo) : Ev sc e 126 0 [some (.int x), some (.int lo), some (.int hi)] [] M (some (.int 0)) M 0 0 := by
  refine Ev.step (pc' := if x < lo then 14 else 5) (ls' := [some (.int x), some (.int lo), some (.int hi)]) (st' := []) (M1 := M) 3 (fun n => rfl) ?_
  rw [if_pos h1]
  refine Ev.step (pc' := 15) (ls' := [some (.int x), some (.int lo), some (.int hi)]) (st' := [.int 0]) (M1 := M) 1 (fun n => rfl) ?_
  exact Ev.ret (fun n => rfl)
theorem within_hi {sc : Sta} {e : Nat} {M : Mem} {x lo hi : Int32} (h1 : ¬ x < lo) (h2 : hi < x) : Ev sc e 126 0 [some (.int x), some (.int lo), some (.int hi)] [] M (some (.int 0)) M 0 0 := by
  refine Ev.step (pc' := if x < lo then 14 else 5) (ls' := [some (.int x), some (.int lo), some (.int hi)]) (st' := []) (M1 := M) 3 (fun n => rfl) ?_
  rw [if_neg h1]
  refine Ev.step (pc' := if hi < x then 14 else 10) (ls' := [some (.int x), some (.int lo), some (.int hi)]) (st' := []) (M1 := M) 3 (fun n => rfl) ?_
  rw [if_pos h2]
  refine Ev.step (pc' := 15) (ls' := [some (.int x), some (.int lo), some (.int hi)]) (st' := [.int 0]) (M1 := M) 1 (fun n => rfl) ?_
  exact Ev.ret (fun n => rfl)
set_option maxRecDepth 200000 in
set_option maxHeartbeats 4000000 in
/-- is it a cell: what the class asks, over the whole memory -/
theorem isc_of {x v : Int32} (hv : v = 0 ∨ v = 1) (h : Ev none 996 126 0 [some (.int x), some (.int 0), some (.int 15)] [] mem0 (some (.int v)) mem0 0 0) : Ev none 997 127 0 [some (.ref 0), some (.int x)] [] mem0 (some (.int v)) mem0 0 0 := by
  refine Ev.step (pc' := 6) (ls' := [some (.ref 0), some (.int x)]) (st' := [.ref 8, .int 0, .int x]) (M1 := mem0) 4 (fun n => rfl) ?_
  refine Ev.call0 (ls0 := [some (.ref 8)]) (rest := [.int 0, .int x]) (id := 6) (v1 := some (.int 16)) (M1 := mem0) (fun n => rfl) ⟨10, rfl⟩ ?_
  refine Ev.step (pc' := 11) (ls' := [some (.ref 0), some (.int x)]) (st' := [.int 15, .int 0, .int x]) (M1 := mem0) 2 (fun n => rfl) ?_
  refine Ev.call0 (ls0 := [some (.int x), some (.int 0), some (.int 15)]) (rest := []) (id := 126) (v1 := some (.int v)) (M1 := mem0) (fun n => rfl) h ?_
  rcases hv with rfl | rfl <;> exact Ev.ret (fun n => rfl)
theorem out_of {x1 x2 : Int32} (h : x1 < 0 ∨ (¬ x1 < 0 ∧ 15 < x1) ∨ ((¬ x1 < 0 ∧ ¬ 15 < x1) ∧ (x2 < 0 ∨ (¬ x2 < 0 ∧ 8 < x2)))) : Out x1 x2 := by
  rcases h with h | ⟨h1, h2⟩ | ⟨⟨h1, h2⟩, h3⟩
  · exact Or.inl (isc_of (Or.inl rfl) (within_lo h))
  · exact Or.inl (isc_of (Or.inl rfl) (within_hi h1 h2))
  · refine Or.inr ⟨isc_of (Or.inr rfl) (within_in h1 h2), ?_⟩
    rcases h3 with h3 | ⟨h3, h4⟩
    · exact within_lo h3
    · exact within_hi h3 h4
set_option maxRecDepth 200000 in
set_option maxHeartbeats 4000000 in
/-- no fresh cell is worn -/
theorem isw_of {x : Int32} (h0 : ¬ x < 0) (h1 : ¬ 15 < x) : Ev none 997 131 0 [some (.ref 0), some (.int x)] [] mem0 (some (.int 0)) mem0 0 0 := by
  refine Ev.step (pc' := 8) (ls' := [some (.ref 0), some (.int x)]) (st' := [.int x, .ref 12]) (M1 := mem0) 4 (fun n => rfl) ?_
  refine Ev.step (pc' := 9) (ls' := [some (.ref 0), some (.int x)]) (st' := [.int 0]) (M1 := mem0) 1 (fun n => go_ald (N := 256) rfl rfl rfl h0 (small_of h0 h1)) ?_
  refine Ev.step (pc' := 27) (ls' := [some (.ref 0), some (.int x)]) (st' := [.int 0]) (M1 := mem0) 6 (fun n => rfl) ?_
  exact Ev.ret (fun n => rfl)
theorem put_sm {α : Type} : ∀ (l : List α) (a : Nat) (e : α), gNth l a = some e → gPut l a e = l := by
  intro l
  induction l with
  | nil => intro a e h; cases h
  | cons x xs ih =>
    intro a e h
    cases a with
    | zero => cases h; rfl
    | succ a => exact congrArg (fun t => x :: t) (ih a e h)
theorem at_out {M2 : Mem} (h : M2.length = 30) (Y : Mem) : gNth (memP ++ (M2 ++ (memO :: Y))) 663 = some memO := by
  rw [nth_eq, List.getElem?_append_right (by rw [memP_l]; decide), memP_l, List.getElem?_append_right (by rw [h]; decide), h]
  rfl
theorem memM_l : memM.length = 30 := by
  rw [memM_R, List.length_map]
  rfl
theorem m0_out : gNth mem0 663 = some memO := at_out memM_l []
theorem one_last {SA : Sta} {n d o kf : Nat} {tab : List (Nat × Nat × Instr)} {pc : Nat} {ls : Lo} {r : List Value} {M : Mem} {a : Nat} (hl : gLook tab pc = some (4, .lastore)) (hM : gNth M a = some memO) : gOne SA n d o kf tab pc ls (.long 0 :: .int 0 :: .ref a :: r) M = some (pc + 1, ls, r, M, 0, 0) := by
  have h : gGet .lastore SA o (Nat.beq kf 2) (.long 0 :: .int 0 :: .ref a :: r) M = some (r, M) := by
    show (match gNth M a with
      | some (.inl (2, .inr (.inl l))) => match gAt l 0 with
        | some _ => some (r, gPut M a (.inl (2, .inr (.inl (gPut l (0 : Int32).toNatClampNeg 0)))))
        | none => none
      | _ => none) = _
    rw [hM]
    show some (r, gPut M a memO) = some (r, M)
    rw [put_sm _ _ _ hM]
  unfold gOne
  rw [hl]
  dsimp only
  rw [h]
  rfl
section CEM
variable {l : Launch} {B : Nat} {sa : Nat → Nat} {cy : Nat → ClassId} {dC : Nat → ClassId} {dI : Nat → Nat → Nat} {SA : Sta} {x1 : Int32}
set_option maxHeartbeats 8000000 in
set_option maxRecDepth 200000 in
theorem met_ans (hfill : MetFill l B sa cy dC dI SA) (g0 : ¬ x1 < 0) (g1 : ¬ 15 < x1) {k : Nat} (hk : k < 9) : Met l yX10_cell (.code yX10_cell cX10_cell 3 (some .int) :: W0) ({ frames := 998, cells := 0, slots := 0, locals := 39920 }) (Pcw B sa cy dC dI SA [.ref 0, .int x1, .int (nI k)] mem0) (Qcw B sa cy dC dI (some (.int 0)) mem0) 0 0 (fun q => B ≤ q) := by
  refine Met.ofW (cc := cX10_cell) (maxL := 3) (ret := some .int) (by decide +kernel) rfl ?_
  intro p e s m args below meth c s₁ B9 hml hv
  obtain ⟨rfl, hI, hsz, hP⟩ := hv
  have hts : ∀ w ∈ W0, w.before (([.ref 0, .int x1, .int (nI k)] : List Value).map (rV B sa)).toArray s = true := fun w hw => atoms_spec (ws := .code yX10_cell cX10_cell 3 (some .int) :: W0) B9.pre w (List.mem_cons_of_mem _ hw)
  have hown : s.vm.findClass RX10 = some m.cls := findClass_of_methodNamed B9.named
  have hlv := lv_entry (([.ref 0, .int x1, .int (nI k)] : List Value).map (rV B sa)) (n := 3) (Nat.le_refl _)
  rw [lg_entry_eq]
  generalize (lg_sl (([.ref 0, .int x1, .int (nI k)] : List Value).map (rV B sa)) ++ List.replicate (3 - (lg_sl (([.ref 0, .int x1, .int (nI k)] : List Value).map (rV B sa))).length) Slot.unset).toArray = ls at hlv ⊢
  have hL : LV B sa 3 [some (.ref 0), some (.int x1), some (.int (nI k))] ls := by
    refine ⟨rfl, _, hlv, fun i w hw => ?_⟩
    have := args_in B sa [.ref 0, .int x1, .int (nI k)] 0 i w hw
    rwa [Nat.zero_add] at this
  have C : Ctx p (headSpec (.code yX10_cell cX10_cell 3 (some .int) :: W0) ({ frames := 998, cells := 0, slots := 0, locals := 39920 })).room s m (([.ref 0, .int x1, .int (nI k)] : List Value).map (rV B sa)).toArray meth c B sa cy dC dI SA 10 1 998 3 RX10 cX10_cell := ⟨B9.exec, B9.bytes, hml, rfl, hown, hts, hI, (fun q => by cases q), Nat.le_refl _, Nat.le_refl _⟩
  have hr : ∀ {pc : Nat} {vs : Lo}, decode cX10_cell pc = .ok (.ireturn, 1) → Wst p l e (headSpec (.code yX10_cell cX10_cell 3 (some .int) :: W0) ({ frames := 998, cells := 0, slots := 0, locals := 39920 })).room s m (([.ref 0, .int x1, .int (nI k)] : List Value).map (rV B sa)).toArray below meth c (MQ below (Qcw B sa cy dC dI (some (.int 0)) mem0) (([.ref 0, .int x1, .int (nI k)] : List Value).map (rV B sa)).toArray s 0 0 (fun q => B ≤ q)) B sa cy dC dI 3 0 0 pc vs [.int 0] mem0 := fun hd => ret_W B9.exec B9.bytes B9.returns B9.notSynchronized hI hd
  refine many_ok (n := 0) (pc := 0) (vs := [some (.ref 0), some (.int x1), some (.int (nI k))]) (st := []) (M := mem0) hfill C ck_c 2 (pc' := 2) (vs' := [some (.ref 0), some (.int x1), some (.int (nI k))]) (st' := [.int x1, .ref 0]) (M' := mem0) (c0 := 0) (s0 := 0) rfl (Nat.zero_le _) (Nat.zero_le _) ?_ s.heap [] ls hP va_S.rf hsz hL
  obtain ⟨n1, h1⟩ := (isc_of (Or.inr rfl) (within_in g0 g1)).any SA
  obtain ⟨n3, h3⟩ := (isw_of g0 g1).any SA
  have hs := small_of g0 g1
  refine one_ok hfill C ck_c (one_call (i := .invokevirtual 113) (id := 127) (ls0 := [some (.ref 0), some (.int x1)]) (rest := []) rfl rfl h1) (Nat.zero_le _) (Nat.zero_le _) ?_
  refine many_ok (n := 0) hfill C ck_c 4 (pc' := 12) (vs' := [some (.ref 0), some (.int x1), some (.int (nI k))]) (st' := [.int 8, .int 0, .int (nI k)]) (M' := mem0) (c0 := 0) (s0 := 0) rfl (Nat.zero_le _) (Nat.zero_le _) ?_
  have h2 : ∃ n2, go SA n2 997 126 0 [some (.int (nI k)), some (.int 0), some (.int 8)] [] mem0 = some (some (.int 1), mem0, 0, 0) := by
    have a : ∀ k : Nat, k < 9 → ¬ nI k < 0 ∧ ¬ 8 < nI k := by decide
    exact within_in (a k hk).1 (a k hk).2
  obtain ⟨n2, h2⟩ := h2
  refine one_ok hfill C ck_c (one_call (i := .invokestatic 103) (id := 126) (ls0 := [some (.int (nI k)), some (.int 0), some (.int 8)]) (rest := []) rfl rfl h2) (Nat.zero_le _) (Nat.zero_le _) ?_
  refine many_ok (n := 0) hfill C ck_c 1 (pc' := 28) (vs' := [some (.ref 0), some (.int x1), some (.int (nI k))]) (st' := []) (M' := mem0) (c0 := 0) (s0 := 0) rfl (Nat.zero_le _) (Nat.zero_le _) ?_
  match k, hk with
  | 0, _ =>
    refine many_ok (n := 0) hfill C ck_c 6 (pc' := 84) (vs' := [some (.ref 0), some (.int x1), some (.int (nI 0))]) (st' := [.int x1, .ref 9]) (M' := mem0) (c0 := 0) (s0 := 0) rfl (Nat.zero_le _) (Nat.zero_le _) ?_
    exact one_ok (n := 0) hfill C ck_c (one_ald (N := 256) rfl rfl g0 hs) (Nat.zero_le _) (Nat.zero_le _) (hr (by decide +kernel))
  | 1, _ =>
    refine many_ok (n := 0) hfill C ck_c 6 (pc' := 94) (vs' := [some (.ref 0), some (.int x1), some (.int (nI 1))]) (st' := [.int x1, .ref 10]) (M' := mem0) (c0 := 0) (s0 := 0) rfl (Nat.zero_le _) (Nat.zero_le _) ?_
    exact one_ok (n := 0) hfill C ck_c (one_ald (N := 256) rfl rfl g0 hs) (Nat.zero_le _) (Nat.zero_le _) (hr (by decide +kernel))
  | 2, _ =>
    refine many_ok (n := 0) hfill C ck_c 6 (pc' := 104) (vs' := [some (.ref 0), some (.int x1), some (.int (nI 2))]) (st' := [.int x1, .ref 11]) (M' := mem0) (c0 := 0) (s0 := 0) rfl (Nat.zero_le _) (Nat.zero_le _) ?_
    exact one_ok (n := 0) hfill C ck_c (one_ald (N := 256) rfl rfl g0 hs) (Nat.zero_le _) (Nat.zero_le _) (hr (by decide +kernel))
  | 3, _ =>
    refine many_ok (n := 0) hfill C ck_c 6 (pc' := 114) (vs' := [some (.ref 0), some (.int x1), some (.int (nI 3))]) (st' := [.int x1, .ref 12]) (M' := mem0) (c0 := 0) (s0 := 0) rfl (Nat.zero_le _) (Nat.zero_le _) ?_
    exact one_ok (n := 0) hfill C ck_c (one_ald (N := 256) rfl rfl g0 hs) (Nat.zero_le _) (Nat.zero_le _) (hr (by decide +kernel))
  | 4, _ =>
    refine many_ok (n := 0) hfill C ck_c 6 (pc' := 124) (vs' := [some (.ref 0), some (.int x1), some (.int (nI 4))]) (st' := [.int x1, .ref 13]) (M' := mem0) (c0 := 0) (s0 := 0) rfl (Nat.zero_le _) (Nat.zero_le _) ?_
    exact one_ok (n := 0) hfill C ck_c (one_ald (N := 256) rfl rfl g0 hs) (Nat.zero_le _) (Nat.zero_le _) (hr (by decide +kernel))
  | 5, _ =>
    refine many_ok (n := 0) hfill C ck_c 6 (pc' := 134) (vs' := [some (.ref 0), some (.int x1), some (.int (nI 5))]) (st' := [.int x1, .ref 14]) (M' := mem0) (c0 := 0) (s0 := 0) rfl (Nat.zero_le _) (Nat.zero_le _) ?_
    exact one_ok (n := 0) hfill C ck_c (one_ald (N := 256) rfl rfl g0 hs) (Nat.zero_le _) (Nat.zero_le _) (hr (by decide +kernel))
  | 6, _ =>
    refine many_ok (n := 0) hfill C ck_c 6 (pc' := 144) (vs' := [some (.ref 0), some (.int x1), some (.int (nI 6))]) (st' := [.int x1, .ref 15]) (M' := mem0) (c0 := 0) (s0 := 0) rfl (Nat.zero_le _) (Nat.zero_le _) ?_
    exact one_ok (n := 0) hfill C ck_c (one_ald (N := 256) rfl rfl g0 hs) (Nat.zero_le _) (Nat.zero_le _) (hr (by decide +kernel))
  | 7, _ =>
    refine many_ok (n := 0) hfill C ck_c 4 (pc' := 148) (vs' := [some (.ref 0), some (.int x1), some (.int (nI 7))]) (st' := [.int x1, .ref 0]) (M' := mem0) (c0 := 0) (s0 := 0) rfl (Nat.zero_le _) (Nat.zero_le _) ?_
    refine one_ok hfill C ck_c (one_call (i := .invokevirtual 261) (id := 131) (ls0 := [some (.ref 0), some (.int x1)]) (rest := []) rfl rfl h3) (Nat.zero_le _) (Nat.zero_le _) ?_
    exact many_ok (n := 0) hfill C ck_c 2 (pc' := 159) (vs' := [some (.ref 0), some (.int x1), some (.int (nI 7))]) (st' := [.int 0]) (M' := mem0) (c0 := 0) (s0 := 0) rfl (Nat.zero_le _) (Nat.zero_le _) (hr (by decide +kernel))
  | 8, _ =>
    refine many_ok (n := 0) hfill C ck_c 4 (pc' := 162) (vs' := [some (.ref 0), some (.int x1), some (.int (nI 8))]) (st' := [.int x1, .ref 0]) (M' := mem0) (c0 := 0) (s0 := 0) rfl (Nat.zero_le _) (Nat.zero_le _) ?_
    refine one_ok hfill C ck_c (one_call (i := .invokevirtual 261) (id := 131) (ls0 := [some (.ref 0), some (.int x1)]) (rest := []) rfl rfl h3) (Nat.zero_le _) (Nat.zero_le _) ?_
    exact many_ok (n := 0) hfill C ck_c 2 (pc' := 195) (vs' := [some (.ref 0), some (.int x1), some (.int (nI 8))]) (st' := [.int 0]) (M' := mem0) (c0 := 0) (s0 := 0) rfl (Nat.zero_le _) (Nat.zero_le _) (hr (by decide +kernel))
  | n + 9, hk => exact absurd hk (by omega)
set_option maxHeartbeats 8000000 in
set_option maxRecDepth 200000 in
theorem met_Lans (hfill : MetFill l B sa cy dC dI SA) (g0 : ¬ x1 < 0) (g1 : ¬ 15 < x1) {k : Nat} (hk : k < 9) : Met l yL_cell (.codeWith yL_cell cL_cell 5 (some .int) [(0, 10, 13, 13)] :: W0) ({ frames := 999, cells := 0, slots := 0, locals := 39960 }) (PcX B sa cy dC dI SA [.ref 0, .int x1, .int (nI k), .ref 663] mem0) (Qcw B sa cy dC dI (some (.int 0)) mem0) 0 0 (fun q => B ≤ q) := by
  refine va_MetW (cc := cL_cell) (maxL := 5) (ret := some .int) (hh := [(0, 10, 13, 13)]) (by decide +kernel) rfl ?_
  intro p e s m args below meth c s₁ B9 hml hv
  obtain ⟨⟨rfl, hI, hsz, hP⟩, hXt⟩ := hv
  have hts0 := atoms_spec (ws := .codeWith yL_cell cL_cell 5 (some .int) [(0, 10, 13, 13)] :: W0) B9.pre
  have hts : ∀ w ∈ W0, w.before (([.ref 0, .int x1, .int (nI k), .ref 663] : List Value).map (rV B sa)).toArray s = true := fun w hw => hts0 w (List.mem_cons_of_mem _ hw)
  have hown : s.vm.findClass RL = some m.cls := findClass_of_methodNamed B9.named
  have hlv := lv_entry (([.ref 0, .int x1, .int (nI k), .ref 663] : List Value).map (rV B sa)) (n := 5) (show 4 ≤ 5 by decide)
  rw [lg_entry_eq]
  generalize (lg_sl (([.ref 0, .int x1, .int (nI k), .ref 663] : List Value).map (rV B sa)) ++ List.replicate (5 - (lg_sl (([.ref 0, .int x1, .int (nI k), .ref 663] : List Value).map (rV B sa))).length) Slot.unset).toArray = ls at hlv ⊢
  have hL : LV B sa 5 [some (.ref 0), some (.int x1), some (.int (nI k)), some (.ref 663), none] ls := by
    refine ⟨rfl, _, hlv, fun i w hw => ?_⟩
    have := args_in B sa [.ref 0, .int x1, .int (nI k), .ref 663] 0 i w (pad_nth (n := 5) hw)
    rwa [Nat.zero_add] at this
  have C : Ctx p (headSpec (.codeWith yL_cell cL_cell 5 (some .int) [(0, 10, 13, 13)] :: W0) ({ frames := 999, cells := 0, slots := 0, locals := 39960 })).room s m (([.ref 0, .int x1, .int (nI k), .ref 663] : List Value).map (rV B sa)).toArray meth c B sa cy dC dI SA 12 0 999 5 RL cL_cell := ⟨B9.exec, B9.bytes, hml, rfl, hown, hts, hI, (fun q => by cases q), Nat.le_refl _, Nat.le_refl _⟩
  refine many_ok (n := 0) (pc := 0) (vs := [some (.ref 0), some (.int x1), some (.int (nI k)), some (.ref 663), none]) (st := []) (M := mem0) hfill C ck_l 5 (pc' := 5) (vs' := [some (.ref 0), some (.int x1), some (.int (nI k)), some (.ref 663), none]) (st' := [.int (nI k), .int x1, .ref 0, .int 0, .ref 663]) (M' := mem0) (c0 := 0) (s0 := 0) rfl (Nat.zero_le _) (Nat.zero_le _) ?_ s.heap [] ls hP va_S.rf hsz hL
  clear hP hsz hL hlv ls
  have tail : Wst p l e (headSpec (.codeWith yL_cell cL_cell 5 (some .int) [(0, 10, 13, 13)] :: W0) ({ frames := 999, cells := 0, slots := 0, locals := 39960 })).room s m (([.ref 0, .int x1, .int (nI k), .ref 663] : List Value).map (rV B sa)).toArray below meth c (MQ below (Qcw B sa cy dC dI (some (.int 0)) mem0) (([.ref 0, .int x1, .int (nI k), .ref 663] : List Value).map (rV B sa)).toArray s 0 0 (fun q => B ≤ q)) B sa cy dC dI 5 0 0 8 [some (.ref 0), some (.int x1), some (.int (nI k)), some (.ref 663), none] [.int 0, .int 0, .ref 663] mem0 := by
    refine many_ok (n := 0) hfill C ck_l 1 (pc' := 9) (vs' := [some (.ref 0), some (.int x1), some (.int (nI k)), some (.ref 663), none]) (st' := [.long 0, .int 0, .ref 663]) (M' := mem0) (c0 := 0) (s0 := 0) rfl (Nat.zero_le _) (Nat.zero_le _) ?_
    refine one_ok (n := 0) hfill C ck_l (one_last rfl m0_out) (Nat.zero_le _) (Nat.zero_le _) ?_
    exact many_ok (n := 0) hfill C ck_l 2 (pc' := 18) (vs' := [some (.ref 0), some (.int x1), some (.int (nI k)), some (.ref 663), none]) (st' := [.int 0]) (M' := mem0) (c0 := 0) (s0 := 0) rfl (Nat.zero_le _) (Nat.zero_le _) (ret_W B9.exec B9.bytes B9.returns B9.notSynchronized hI (by decide +kernel))
  intro H locs ls hP hS hsz hL
  refine W.sz (fun hz => ?_)
  have hH := world_size hI hP hS hsz hz
  obtain ⟨-, l9, h9, -⟩ := id hL
  have hpre : PreV s H RX10 (B + 0) (Pcw B sa cy dC dI SA [.ref 0, .int x1, .int (nI k)] mem0) ([.int x1, .int (nI k)] : List Value) := pre_v (M := mem0) (as := [.int x1, .int (nI k)]) (a := 0) (o2 := 10) (C := RX10) rfl (by decide) rfl hI hP hS hH
  exact back_ok (rest := [.int 0, .ref 663]) (va_runV (C := RX10) (b := B + 0) (As := [.int x1, .int (nI k)]) (rest := [.int 0, .ref (B + 663)]) (cc := cL_cell) (nL := 5) ⟨B9.exec, B9.bytes, hml, hown, hts⟩ (met_ans hfill g0 g1 hk) (cw_cell hts (Nat.le_refl _) (Nat.le_of_ble_eq_true rfl)) hpre rfl rfl h9.1 rfl (show 0 + (1 + (1 + 0)) ≤ 8 by decide) d_l5 ⟨Nat.le_refl _, Nat.le_refl _⟩) hS (fun H1 locs1 hP1 hS1 => tail H1 locs1 ls hP1 hS1 hsz hL)
end CEM
