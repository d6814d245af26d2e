/-! ROWS OF LONGS -/
noncomputable def lrw (M : Mem) (a : Nat) : List Int64 := match gNth M a with
  | some (.inl (_, .inr (.inl l))) => l
  | _ => []
noncomputable def lJ (M : Mem) (a j : Nat) : Int64 := (gNth (lrw M a) j).getD 0
noncomputable def wJ (M : Mem) (a j : Nat) (x : Int64) : Mem := match gNth M a with
  | some (.inl (t, .inr (.inl l))) => gPut M a (.inl (t, .inr (.inl (gPut l j x))))
  | _ => M
noncomputable def lgB (g n : Nat) : Bool := match gNth sG g with
  | some (.inr (2, m, _)) => Nat.beq m n
  | _ => false
section LROW
variable {d me pc o np kf mx a b g n k i jn : Nat} {y : MethodName} {cc : ByteArray} {ret : Option FieldType} {tab : List (Nat × Nat × Instr)} {ls : Lo} {st : List Value} {M M' : Mem} {v : Option Value} {c s : Nat} {j : Int32} {x : Int64} {F : Nat → Nat → Prop} {W O : Nat → Prop}
theorem SH.lrow (hS : SH M) (ha : gNth sT a = some g) (hB : lgB g n = true) : gNth M a = some (.inl (2, .inr (.inl (lrw M a)))) ∧ (lrw M a).length = n := by
  unfold lgB at hB
  split at hB
  rotate_left
  · cases hB
  rename_i m q e
  cases Nat.eq_of_beq_eq_true hB
  obtain ⟨e1, h1, h2⟩ := hS.2 a g _ ha e
  obtain ⟨l, rfl, h4⟩ := h2
  have el : lrw M a = l := by
    unfold lrw
    rw [h1]
  rw [el]
  exact ⟨h1, h4⟩
theorem gatl_in {α : Type} {l : List α} {z : α} (h : gAt l j = some z) : 0 ≤ j.toInt ∧ j.toInt < (l.length : Int) ∧ gNth l j.toNatClampNeg = some z := by
  unfold gAt at h
  cases hd : decide (j < 0) with
  | true => rw [hd] at h; cases h
  | false =>
    rw [hd] at h
    have h : gNth l j.toNatClampNeg = some z := h
    have nl : ¬ j < 0 := of_decide_eq_false hd
    have j0 : 0 ≤ j.toInt := by
      have t0 : (0 : Int32).toInt = 0 := rfl
      have q : ¬ j.toInt < (0 : Int32).toInt := fun q => nl (Int32.lt_iff_toInt_lt.mpr q)
      omega
    have hl := gNth_lt _ _ _ h
    rw [cl_n (show j.toInt = ((j.toInt.toNat : Nat) : Int) by omega)] at hl
    exact ⟨j0, by omega, h⟩
theorem Ev.lal (hrow : gNth mRs me = some (o, y, cc, mx, ret, np, kf, tab)) (hl : gLook tab pc = some (3, .laload)) (hS : SH M) (ha : gNth sT a = some g) (hB : lgB g n = true) (h : Ev none d me pc ls (.int j :: .ref a :: st) M v M' c s) : (0 ≤ j.toInt ∧ j.toInt < (n : Int)) ∧ Ev none d me (pc + 1) ls (.long (lJ M a j.toNatClampNeg) :: st) M v M' c s := by
  obtain ⟨st1, M1, e, h⟩ := Ev.get hrow hl h
  obtain ⟨h1, h2⟩ := hS.lrow ha hB
  have e : (match gNth M a with
    | some (.inl (2, .inr (.inl l))) => match gAt l j with
      | some x => some (Value.long x :: st, M)
      | none => none
    | _ => none) = some (st1, M1) := e
  rw [h1] at e
  have e : (match gAt (lrw M a) j with
      | some x => some (Value.long x :: st, M)
      | none => none) = some (st1, M1) := e
  cases hg : gAt (lrw M a) j with
  | none => rw [hg] at e; cases e
  | some x =>
    rw [hg] at e
    cases e
    obtain ⟨q1, q2, q3⟩ := gatl_in hg
    rw [h2] at q2
    refine ⟨⟨q1, q2⟩, ?_⟩
    have el : lJ M a j.toNatClampNeg = x := by
      unfold lJ
      have q4 := q3
      rw [q4]
      rfl
    rw [el]
    exact h
theorem wJ_eq (h : gNth M a = some (.inl (2, .inr (.inl (lrw M a))))) : wJ M a jn x = gPut M a (.inl (2, .inr (.inl (gPut (lrw M a) jn x)))) := by
  unfold wJ
  rw [h]
theorem Ev.las (hrow : gNth mRs me = some (o, y, cc, mx, ret, np, kf, tab)) (hl : gLook tab pc = some (4, .lastore)) (hS : SH M) (ha : gNth sT a = some g) (hB : lgB g n = true) (h : Ev none d me pc ls (.long x :: .int j :: .ref a :: st) M v M' c s) : (0 ≤ j.toInt ∧ j.toInt < (n : Int)) ∧ Ev none d me (pc + 1) ls st (wJ M a j.toNatClampNeg x) v M' c s := by
  obtain ⟨st1, M1, e, h⟩ := Ev.put hrow hl h
  obtain ⟨h1, h2⟩ := hS.lrow ha hB
  have e : (match gNth M a with
    | some (.inl (2, .inr (.inl l))) => match gAt l j with
      | some _ => some (st, gPut M a (.inl (2, .inr (.inl (gPut l j.toNatClampNeg x)))))
      | none => none
    | _ => none) = some (st1, M1) := e
  rw [h1] at e
  have e : (match gAt (lrw M a) j with
      | some _ => some (st, gPut M a (.inl (2, .inr (.inl (gPut (lrw M a) j.toNatClampNeg x)))))
      | none => none) = some (st1, M1) := e
  cases hg : gAt (lrw M a) j with
  | none => rw [hg] at e; cases e
  | some x2 =>
    rw [hg] at e
    cases e
    obtain ⟨q1, q2, q3⟩ := gatl_in hg
    rw [h2] at q2
    rw [wJ_eq h1]
    exact ⟨⟨q1, q2⟩, h⟩
theorem fV_wJ : fV (wJ M a jn x) b k = fV M b k := by
  unfold wJ
  split
  · rename_i kd l hM
    exact fV_put (fun c vs q => by cases q) (fun c vs q => by rw [hM] at q; cases q)
  · rfl
theorem fI_wJ : zI (wJ M a jn x) b k = zI M b k := by unfold zI; rw [fV_wJ]
theorem fR_wJ : fR (wJ M a jn x) b k = fR M b k := by unfold fR; rw [fV_wJ]
theorem rwL_wJ : zrw (wJ M a jn x) b = zrw M b := by
  unfold wJ
  split
  · rename_i t l hM
    unfold zrw
    rw [nth_put]
    by_cases hb : b = a ∧ a < M.length
    · rw [if_pos hb, hb.1, hM]
    · rw [if_neg hb]
  · rfl
theorem roL_wJ : roL (wJ M a jn x) b = roL M b := by
  unfold wJ
  split
  · rename_i t l hM
    unfold roL
    rw [nth_put]
    by_cases hb : b = a ∧ a < M.length
    · rw [if_pos hb, hb.1, hM]
    · rw [if_neg hb]
  · rfl
theorem rN_wJ : rN (wJ M a jn x) b i = rN M b i := by unfold rN; rw [rwL_wJ]
theorem FZ.wJ : FZ F W O M (wJ M a jn x) := ⟨fun _ _ _ => fV_wJ, fun _ _ => rwL_wJ, fun _ _ => roL_wJ⟩
theorem lrw_eq (h : gNth M a = some (.inl (2, .inr (.inl (lrw M a))))) : lrw (wJ M a jn x) a = gPut (lrw M a) jn x := by
  rw [wJ_eq h]
  have e : gNth (gPut M a (.inl (2, .inr (.inl (gPut (lrw M a) jn x))))) a = some (.inl (2, .inr (.inl (gPut (lrw M a) jn x)))) := by rw [nth_put, if_pos ⟨rfl, gNth_lt _ _ _ h⟩]
  show (match gNth (gPut M a (.inl (2, .inr (.inl (gPut (lrw M a) jn x))))) a with
    | some (.inl (_, .inr (.inl l))) => l
    | _ => []) = _
  rw [e]
theorem lJ_eq (hS : SH M) (ha : gNth sT a = some g) (hB : lgB g n = true) (hj : jn < n) : lJ (wJ M a jn x) a jn = x := by
  obtain ⟨h1, h2⟩ := hS.lrow ha hB
  unfold lJ
  rw [lrw_eq h1, nth_put, if_pos ⟨rfl, by omega⟩]
  rfl
theorem lJ_ne (hS : SH M) (ha : gNth sT a = some g) (hB : lgB g n = true) (hi : i ≠ jn) : lJ (wJ M a jn x) a i = lJ M a i := by
  obtain ⟨h1, h2⟩ := hS.lrow ha hB
  unfold lJ
  rw [lrw_eq h1, nth_put, if_neg (fun q => hi q.1)]
theorem SH.kj (hS : SH M) : SH (wJ M a jn x) := by
  unfold wJ
  split
  · rename_i kd l hM
    refine hS.put (fun g t h1 h2 => ?_)
    obtain ⟨e, e1, e2⟩ := hS.2 a g t h1 h2
    cases hM.symm.trans e1
    rcases t with ⟨ci, fs⟩ | ⟨q, n, u⟩
    · obtain ⟨vs, h3, _⟩ := e2
      cases h3
    · match q, u, e2 with
      | 2, u, e2 =>
        obtain ⟨l2, h3, h4⟩ := e2
        cases h3
        exact ⟨_, rfl, by rw [put_len]; exact h4⟩
      | 0, .inl _, e2 => obtain ⟨l2, h3, h4⟩ := e2; cases h3
      | 0, .inr _, e2 => obtain ⟨l2, h3, h4⟩ := e2; cases h3
      | 1, .inl _, e2 => obtain ⟨l2, h3, h4⟩ := e2; cases h3
      | 1, .inr _, e2 => obtain ⟨l2, h3, h4⟩ := e2; cases h3
      | q + 3, .inl _, e2 => obtain ⟨l2, h3, h4⟩ := e2; cases h3
      | q + 3, .inr _, e2 => obtain ⟨l2, h3, h4⟩ := e2; cases h3
  · exact hS
theorem SQ.kj (h : SQ M) : SQ (wJ M a jn x) := ⟨h.1.kj, h.2.mv (fun b i r q => by rw [fV_wJ]; exact q)⟩
end LROW
