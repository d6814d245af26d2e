/-! PURE: the reference's cell, and the rest of the law behind the class's answer -/
noncomputable def okT (r : Rs) : Bool := match r with
  | some (some (.int x), M1, c, s) => decide (x = 0) && (Nat.beq c 0 && (Nat.beq s 0 && (gRecv M1 (.ref 0) 11 && okR (goF none 20 999 135 0 [some (.ref 0)] [] M1) (some (.int 0)))))
  | _ => false
theorem okT_ev {n : Nat} {ls : Lo} (h : okT (goF none n 999 215 0 ls [] memR) = true) : ∃ M1, Ev none 999 215 0 ls [] memR (some (.int 0)) M1 0 0 ∧ gRecv M1 (.ref 0) 11 = true ∧ ∃ M2, Ev none 999 135 0 [some (.ref 0)] [] M1 (some (.int 0)) M2 0 0 := by
  generalize hr : goF none n 999 215 0 ls [] memR = r at h
  unfold okT at h
  split at h
  · rename_i x M1 c s
    rw [Bool.and_eq_true, Bool.and_eq_true, Bool.and_eq_true, Bool.and_eq_true] at h
    obtain ⟨h1, h2, h3, h4, h5⟩ := h
    obtain rfl := of_decide_eq_true h1
    obtain rfl := Nat.eq_of_beq_eq_true h2
    obtain rfl := Nat.eq_of_beq_eq_true h3
    exact ⟨M1, Ev.of hr none, h4, okR_ev h5⟩
  · cases h
set_option maxRecDepth 200000 in
theorem cell_kr : (List.range 16).all (fun c => (List.range 9).all (fun k => okT (goF none 800 999 215 0 [some (.ref 0), some (.int (nI c)), some (.int (nI k))] [] memR))) = true := by decide +kernel
theorem cell_r {c k : Nat} (hc : c < 16) (hk : k < 9) : ∃ M1, Ev none 999 215 0 [some (.ref 0), some (.int (nI c)), some (.int (nI k))] [] memR (some (.int 0)) M1 0 0 ∧ gRecv M1 (.ref 0) 11 = true ∧ ∃ M2, Ev none 999 135 0 [some (.ref 0)] [] M1 (some (.int 0)) M2 0 0 := okT_ev (List.all_eq_true.mp (List.all_eq_true.mp cell_kr c (List.mem_range.mpr hc)) k (List.mem_range.mpr hk))
theorem isin_lo {sc : Sta} {e : Nat} {M : Mem} {x lo hi : Int32} (h1 : x < lo) : Ev sc e 141 0 [some (.int x), some (.int lo), some (.int hi)] [] M (some (.int 0)) M 0 0 := by
  refine Ev.step (pc' := if x < lo then 14 else 5) (ls' := [some (.int x), some (.int lo), some (.int hi)]) (st' := []) (M1 := M) 3 (fun n => rfl) ?_
  rw [if_pos h1]
  refine Ev.step (pc' := 15) (ls' := [some (.int x), some (.int lo), some (.int hi)]) (st' := [.int 0]) (M1 := M) 1 (fun n => rfl) ?_
  exact Ev.ret (fun n => rfl)
theorem isin_hi {sc : Sta} {e : Nat} {M : Mem} {x lo hi : Int32} (h1 : ¬ x < lo) (h2 : hi < x) : Ev sc e 141 0 [some (.int x), some (.int lo), some (.int hi)] [] M (some (.int 0)) M 0 0 := by
  refine Ev.step (pc' := if x < lo then 14 else 5) (ls' := [some (.int x), some (.int lo), some (.int hi)]) (st' := []) (M1 := M) 3 (fun n => rfl) ?_
  rw [if_neg h1]
  refine Ev.step (pc' := if hi < x then 14 else 10) (ls' := [some (.int x), some (.int lo), some (.int hi)]) (st' := []) (M1 := M) 3 (fun n => rfl) ?_
  rw [if_pos h2]
  refine Ev.step (pc' := 15) (ls' := [some (.int x), some (.int lo), some (.int hi)]) (st' := [.int 0]) (M1 := M) 1 (fun n => rfl) ?_
  exact Ev.ret (fun n => rfl)
set_option maxRecDepth 200000 in
set_option maxHeartbeats 4000000 in
theorem risc_of {x v : Int32} (hv : v = 0 ∨ v = 1) (h : Ev none 997 141 0 [some (.int x), some (.int 0), some (.int 15)] [] memR (some (.int v)) memR 0 0) : Ev none 998 146 0 [some (.ref 0), some (.int x)] [] memR (some (.int v)) memR 0 0 := by
  refine Ev.step (pc' := 3) (ls' := [some (.ref 0), some (.int x)]) (st' := [.ref 0, .int 0, .int x]) (M1 := memR) 3 (fun n => rfl) ?_
  refine Ev.call0 (ls0 := [some (.ref 0)]) (rest := [.int 0, .int x]) (id := 145) (v1 := some (.int 16)) (M1 := memR) (fun n => rfl) ⟨10, rfl⟩ ?_
  refine Ev.step (pc' := 8) (ls' := [some (.ref 0), some (.int x)]) (st' := [.int 15, .int 0, .int x]) (M1 := memR) 2 (fun n => rfl) ?_
  refine Ev.call0 (ls0 := [some (.int x), some (.int 0), some (.int 15)]) (rest := []) (id := 141) (v1 := some (.int v)) (M1 := memR) (fun n => rfl) h ?_
  rcases hv with rfl | rfl <;> exact Ev.ret (fun n => rfl)
/-- the reference behind the answer 'it throws' -/
noncomputable def memT : Mem := gPut memR 0 (.inr (11, [.int 1, .ref 1, .int 0, .int 0, .int 0, .ref 2, .ref 3, .ref 4, .ref 5, .ref 6, .ref 7, .ref 8, .ref 9, .ref 10, .ref 11, .ref 12, .ref 13, .ref 14, .ref 15, .int 0, .int 0, .int 0, .int 0, .int 0, .int 0, .int 0, .int 0, .int 0, .int 40, .int 50, .int 10, .long 0, .int 0, .ref 16, .int 0, .int 0, .int 0, .int 0, .int 0, .int 0, .int (-1), .int 0, .int 0, .ref 17, .ref 18, .ref 19, .ref 20, .ref 21, .ref 22, .int 0, .int 0, .int 0, .ref 23, .int 0, .ref 24, .ref 25, .ref 26, .ref 27, .ref 28, .ref 29, .int 0, .int 0, .int 0]))
set_option maxRecDepth 200000 in
set_option maxHeartbeats 4000000 in
theorem rcell_end {x1 x2 : Int32} : Ev none 999 215 24 [some (.ref 0), some (.int x1), some (.int x2)] [.int 1, .ref 0] memR (some (.int 0)) memT 0 0 := by
  refine Ev.call0 (ls0 := [some (.ref 0), some (.int 1)]) (rest := []) (id := 136) (v1 := some (.int 1)) (M1 := memT) (fun n => rfl) ?_ ?_
  · refine Ev.step (pc' := 10) (ls' := [some (.ref 0), some (.int 1)]) (st' := [.int 1, .ref 0]) (M1 := memR) 5 (fun n => rfl) ?_
    refine Ev.step (pc' := 14) (ls' := [some (.ref 0), some (.int 1)]) (st' := [.int 1]) (M1 := memT) 2 (fun n => rfl) ?_
    exact Ev.ret (fun n => rfl)
  refine Ev.step (pc' := 31) (ls' := [some (.ref 0), some (.int x1), some (.int x2)]) (st' := [.int 0]) (M1 := memT) 2 (fun n => rfl) ?_
  exact Ev.ret (fun n => rfl)
set_option maxRecDepth 200000 in
set_option maxHeartbeats 4000000 in
theorem rcell_out {x1 x2 : Int32} (h : x1 < 0 ∨ (¬ x1 < 0 ∧ 15 < x1) ∨ ((¬ x1 < 0 ∧ ¬ 15 < x1) ∧ (x2 < 0 ∨ (¬ x2 < 0 ∧ 8 < x2)))) : Ev none 999 215 0 [some (.ref 0), some (.int x1), some (.int x2)] [] memR (some (.int 0)) memT 0 0 := by
  refine Ev.step (pc' := 3) (ls' := [some (.ref 0), some (.int x1), some (.int x2)]) (st' := [.int x1, .ref 0, .ref 0]) (M1 := memR) 3 (fun n => rfl) ?_
  have h0 : Ev none 998 146 0 [some (.ref 0), some (.int x1)] [] memR (some (.int 0)) memR 0 0 → Ev none 999 215 3 [some (.ref 0), some (.int x1), some (.int x2)] [.int x1, .ref 0, .ref 0] memR (some (.int 0)) memT 0 0 := by
    intro h
    refine Ev.call0 (ls0 := [some (.ref 0), some (.int x1)]) (rest := [.ref 0]) (id := 146) (v1 := some (.int 0)) (M1 := memR) (fun n => rfl) h ?_
    refine Ev.step (pc' := 24) (ls' := [some (.ref 0), some (.int x1), some (.int x2)]) (st' := [.int 1, .ref 0]) (M1 := memR) 3 (fun n => rfl) ?_
    exact rcell_end
  rcases h with h | ⟨h1, h2⟩ | ⟨⟨h1, h2⟩, h3⟩
  · exact h0 (risc_of (Or.inl rfl) (isin_lo h))
  · exact h0 (risc_of (Or.inl rfl) (isin_hi h1 h2))
  · refine Ev.call0 (ls0 := [some (.ref 0), some (.int x1)]) (rest := [.ref 0]) (id := 146) (v1 := some (.int 1)) (M1 := memR) (fun n => rfl) (risc_of (Or.inr rfl) (isin_in h1 h2)) ?_
    refine Ev.step (pc' := 13) (ls' := [some (.ref 0), some (.int x1), some (.int x2)]) (st' := [.int 8, .int 0, .int x2, .ref 0]) (M1 := memR) 4 (fun n => rfl) ?_
    have h9 : Ev none 998 141 0 [some (.int x2), some (.int 0), some (.int 8)] [] memR (some (.int 0)) memR 0 0 := by
      rcases h3 with h3 | ⟨h3, h4⟩
      · exact isin_lo h3
      · exact isin_hi h3 h4
    refine Ev.call0 (ls0 := [some (.int x2), some (.int 0), some (.int 8)]) (rest := [.ref 0]) (id := 141) (v1 := some (.int 0)) (M1 := memR) (fun n => rfl) h9 ?_
    refine Ev.step (pc' := 24) (ls' := [some (.ref 0), some (.int x1), some (.int x2)]) (st' := [.int 1, .ref 0]) (M1 := memR) 3 (fun n => rfl) ?_
    exact rcell_end
theorem rthrown : Ev none 999 135 0 [some (.ref 0)] [] memT (some (.int 1)) memT 0 0 := by
  refine Ev.step (pc' := 4) (ls' := [some (.ref 0)]) (st' := [.int 1]) (M1 := memT) 2 (fun n => rfl) ?_
  exact Ev.ret (fun n => rfl)
theorem on_ref2 {id : Nat} {ls : Lo} {M1 M2 Y : Mem} {v : Option Value} (sc : Sta) (h : Ev none 999 id 0 ls [] M1 v M2 0 0) : Ev sc 999 id 0 (ls.map (shO 633)) [] (memP ++ (M1.map (shE 633) ++ Y)) (v.map (shV 633)) (memP ++ (M2.map (shE 633) ++ Y)) 0 0 := by
  have h2 := (h.any sc).emb memP Y
  rw [memP_l] at h2
  have e3 : ∀ M : Mem, emb memP Y M = memP ++ (M.map (shE 633) ++ Y) := by
    intro M
    show memP ++ (M.map (shE memP.length) ++ Y) = _
    rw [memP_l]
  rw [e3, e3] at h2
  exact h2
theorem recv_s9 {M2 Y : Mem} (h : gRecv M2 (.ref 0) 11 = true) : gRecv (memP ++ (M2.map (shE 633) ++ Y)) (.ref 633) 11 = true := by
  have h1 : gNth (memP ++ (M2.map (shE 633) ++ Y)) 633 = gNth (M2.map (shE 633) ++ Y) 0 := by
    rw [nth_eq, nth_eq, List.getElem?_append_right (by rw [memP_l]; exact Nat.le_refl _), memP_l]
  show (match gNth (memP ++ (M2.map (shE 633) ++ Y)) 633 with
    | some (.inr (c, _)) => Nat.beq c 11
    | _ => false) = true
  rw [h1]
  cases M2 with
  | nil => cases h
  | cons e r =>
    rcases e with ⟨t, l | l | l⟩ | ⟨c, vs⟩
    · cases h
    · cases h
    · cases h
    · exact h
set_option maxRecDepth 200000 in
set_option maxHeartbeats 4000000 in
theorem law_end2 (x0 x1 x2 x3 x4 x5 k b : Int32) (M : Mem) : Ev (some [x0, x1, x2, x3, x4, x5]) 1000 251 1352 [some (.retAddr 0), some (.ref 0), some (.ref 633), some (.ref 663), some (.int 0), some (.int k), some (.int b)] [] M (some (.int 1)) M 0 0 := by
  refine Ev.step (pc' := 27) (ls' := [some (.retAddr 0), some (.ref 0), some (.ref 633), some (.ref 663), some (.int 6), some (.int k), some (.int b)]) (st' := [.int 6, .int 6]) (M1 := M) 5 (fun n => rfl) ?_
  refine Ev.step (pc' := 1359) (ls' := [some (.retAddr 0), some (.ref 0), some (.ref 633), some (.ref 663), some (.int 6), some (.int k), some (.int b)]) (st' := [.int 1]) (M1 := M) 4 (fun n => rfl) ?_
  exact Ev.ret (fun n => rfl)
theorem go_lld {SA : Sta} {n d me pc : Nat} {ls : Lo} {r : List Value} {M : Mem} {a : Nat} {q : MR} (hrow : gNth mRs me = some q) (hl : gLook q.2.2.2.2.2.2.2 pc = some (3, .laload)) (hM : gNth M a = some memO) : go SA (n + 1) d me pc ls (.int 0 :: .ref a :: r) M = go SA n d me (pc + 1) ls (.long 0 :: r) M := by
  obtain ⟨o2', a1, a2, maxL', a3, np', kf', tab⟩ := q
  have h : ∀ (o : Nat) (ini : Bool), gGet .laload SA o ini (.int 0 :: .ref a :: r) M = some (.long 0 :: r, M) := by
    intro o ini
    show (match gNth M a with
      | some (.inl (2, .inr (.inl l))) => match gAt l 0 with
        | some x => some (Value.long x :: r, M)
        | none => none
      | _ => none) = _
    rw [hM]
    rfl
  rw [go_succ]
  unfold gStep
  rw [hrow]
  dsimp only at hl ⊢
  rw [hl]
  dsimp only
  rw [h]
  rfl
set_option maxRecDepth 200000 in
set_option maxHeartbeats 8000000 in
theorem law_tail {x0 x1 x2 x3 x4 x5 k b : Int32} {M2 M3 Y : Mem} (A : Ev none 999 215 0 [some (.ref 0), some (.int x1), some (.int x2)] [] memR (some (.int b)) M2 0 0) (hr : gRecv M2 (.ref 0) 11 = true) (A2 : Ev none 999 135 0 [some (.ref 0)] [] M2 (some (.int k)) M3 0 0) (hk : k = 1 ∨ (k = 0 ∧ b = 0 ∧ ∃ E, Y = memO :: E)) : ∃ M', Ev (some [x0, x1, x2, x3, x4, x5]) 1000 251 633 [some (.retAddr 0), some (.ref 0), some (.ref 633), some (.ref 663), some (.int 0), none, none] [.int k] (memP ++ (memM ++ Y)) (some (.int 1)) M' 0 0 := by
  have hl3 : M3.length = 30 := by
    rw [A2.len, A.len]
    rfl
  refine ⟨memP ++ (M3.map (shE 633) ++ Y), ?_⟩
  refine Ev.step (pc' := 648) (ls' := [some (.retAddr 0), some (.ref 0), some (.ref 633), some (.ref 663), some (.int 0), some (.int k), none]) (st' := [.int x2, .int x1, .ref 633]) (M1 := memP ++ (memM ++ Y)) 12 (fun n => rfl) ?_
  rw [memM_R]
  refine Ev.call0 (rest := []) (id := 215) (fun n => callv_step rfl rfl (calk_v rfl rfl rfl rfl rfl rfl rfl rfl (recv_s9 rfl) rfl)) (on_ref2 _ A) ?_
  refine Ev.step (pc' := 654) (ls' := [some (.retAddr 0), some (.ref 0), some (.ref 633), some (.ref 663), some (.int 0), some (.int k), some (.int b)]) (st' := [.ref 633]) (M1 := memP ++ (M2.map (shE 633) ++ Y)) 2 (fun n => rfl) ?_
  refine Ev.call0 (rest := []) (id := 135) (fun n => callv_step rfl rfl (calk_v rfl rfl rfl rfl rfl rfl rfl rfl (recv_s9 hr) rfl)) (on_ref2 _ A2) ?_
  refine Ev.step (pc' := if k = k then 664 else 662) (ls' := [some (.retAddr 0), some (.ref 0), some (.ref 633), some (.ref 663), some (.int 0), some (.int k), some (.int b)]) (st' := []) (M1 := memP ++ (M3.map (shE 633) ++ Y)) 2 (fun n => rfl) ?_
  rw [if_pos rfl]
  rcases hk with rfl | ⟨rfl, rfl, E, rfl⟩
  · refine Ev.step (pc' := 1352) (ls' := [some (.retAddr 0), some (.ref 0), some (.ref 633), some (.ref 663), some (.int 0), some (.int 1), some (.int b)]) (st' := []) (M1 := memP ++ (M3.map (shE 633) ++ Y)) 3 (fun n => rfl) ?_
    exact law_end2 _ _ _ _ _ _ _ _ _
  · refine Ev.step (pc' := 671) (ls' := [some (.retAddr 0), some (.ref 0), some (.ref 633), some (.ref 663), some (.int 0), some (.int 0), some (.int 0)]) (st' := [.int 0, .ref 663]) (M1 := memP ++ (M3.map (shE 633) ++ memO :: E)) 4 (fun n => rfl) ?_
    refine Ev.step (pc' := 672) (ls' := [some (.retAddr 0), some (.ref 0), some (.ref 633), some (.ref 663), some (.int 0), some (.int 0), some (.int 0)]) (st' := [.long 0]) (M1 := memP ++ (M3.map (shE 633) ++ memO :: E)) 1 (fun n => go_lld rfl rfl (at_out (by rw [List.length_map]; exact hl3) E)) ?_
    refine Ev.step (pc' := 1352) (ls' := [some (.retAddr 0), some (.ref 0), some (.ref 633), some (.ref 663), some (.int 0), some (.int 0), some (.int 0)]) (st' := []) (M1 := memP ++ (M3.map (shE 633) ++ memO :: E)) 5 (fun n => rfl) ?_
    exact law_end2 _ _ _ _ _ _ _ _ _
