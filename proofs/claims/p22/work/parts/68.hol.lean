/-! BY HAND: the reference's holds(x, c), for a line that is well formed -/
noncomputable def mfB (k g : Nat) : Bool := match gNth sG 61 with
  | some (.inl (11, fs)) => (match gNth fs k with
    | some (.inr n) => Nat.beq n (2 * g + 1)
    | _ => false)
  | _ => false
theorem TM.mfld {M : Mem} (hT : TM sT sG M) : ∃ vs, gNth M 633 = some (.inr (11, vs)) ∧ ∀ k g a, mfB k g = true → gNth sU g = some (some a) → gNth vs k = some (.ref a) := by
  have h1 := sG_61
  cases e1 : gNth sG 61 with
  | none => rw [e1] at h1; exact absurd h1 (by decide)
  | some t => ?_
  rw [e1] at h1
  obtain ⟨a1, b1, c1⟩ := hT.at sT_633 e1
  have q1 : ∃ fs, t = .inl (11, fs) := by
    revert h1
    split
    · intro _
      exact ⟨_, (Option.some.inj ‹_›)⟩
    · intro h; cases h
  obtain ⟨fs, rfl⟩ := q1
  obtain ⟨vs, rfl, v1, v2⟩ := c1
  refine ⟨vs, b1, fun k g a hk hu => ?_⟩
  unfold mfB at hk
  rw [e1] at hk
  have hk : (match gNth fs k with
    | some (.inr n) => Nat.beq n (2 * g + 1)
    | _ => false) = true := hk
  cases e3 : gNth fs k with
  | none => rw [e3] at hk; cases hk
  | some ft => ?_
  rw [e3] at hk
  obtain ⟨v, v3, v4⟩ := v2 k _ e3
  rcases ft with p | n
  · cases hk
  · cases Nat.eq_of_beq_eq_true hk
    rcases v4 with ⟨b, rfl, hb⟩ | ⟨hk, _⟩
    · have hb : gNth sT b = some (2 * g / 2) := hb
      rw [Nat.mul_div_cancel_left _ (by decide : 0 < 2)] at hb
      rw [v3, sU_ok _ _ _ hb hu]
    · have hk : 2 * g % 2 = 1 := hk
      omega
noncomputable def rwB (g kd n : Nat) (lo hi : Int) : Bool := match gNth sG g with
  | some (.inr (q, m, .inl sg)) => Nat.beq q kd && (Nat.beq m n && (!Nat.beq q 2 && sgIn sg (fun p => decide (lo ≤ p.1) && decide (p.2 ≤ hi))))
  | _ => false
theorem TM.mrow {M : Mem} (hT : TM sT sG M) {a g kd n : Nat} {lo hi : Int} (ha : gNth sT a = some g) (h : rwB g kd n lo hi = true) : ∃ l : List Int32, gNth M a = some (.inl (kd, .inl l)) ∧ l.length = n ∧ ∀ j x, gNth l j = some x → lo ≤ x.toInt ∧ x.toInt ≤ hi := by
  unfold rwB at h
  split at h
  · rename_i q m sg e
    obtain ⟨h1, h⟩ := and_t h
    obtain ⟨h2, h⟩ := and_t h
    obtain ⟨h3, h4⟩ := and_t h
    cases Nat.eq_of_beq_eq_true h1
    cases Nat.eq_of_beq_eq_true h2
    have h5 : kd ≠ 2 := by
      rintro rfl
      cases h3
    obtain ⟨e1, e2, e3⟩ := hT.at ha e
    obtain ⟨l, rfl, l1, l2⟩ := ct_int h5 e3
    refine ⟨l, e2, l1, fun j x hx => ?_⟩
    obtain ⟨p, p1, p2, p3⟩ := l2 j x hx
    have h6 := sg_at h4 p1
    obtain ⟨h7, h8⟩ := and_t h6
    have h7 := of_decide_eq_true h7
    have h8 := of_decide_eq_true h8
    constructor <;> omega
  · cases h
theorem TM.putrow {M : Mem} (hT : TM sT sG M) {a g kd n : Nat} {lo hi : Int} {l : List Int32} (ha : gNth sT a = some g) (h : (match gNth sG g with
    | some (.inr (q, m, .inl [(0, m2, 1, [(x, y)])])) => Nat.beq q kd && (Nat.beq m n && (!Nat.beq q 2 && (Nat.beq m2 n && (decide (x ≤ lo) && decide (hi ≤ y)))))
    | _ => false) = true) (hl : l.length = n) (hx : ∀ j x, gNth l j = some x → lo ≤ x.toInt ∧ x.toInt ≤ hi) : TM sT sG (gPut M a (.inl (kd, .inl l))) := by
  refine hT.put (fun g2 t w1 w2 => ?_)
  rw [ha] at w1
  cases w1
  rw [w2] at h
  split at h
  · rename_i q m m2 x y e
    cases e
    obtain ⟨h1, h⟩ := and_t h
    obtain ⟨h2, h⟩ := and_t h
    obtain ⟨h3, h⟩ := and_t h
    obtain ⟨h4, h⟩ := and_t h
    obtain ⟨h5, h6⟩ := and_t h
    cases Nat.eq_of_beq_eq_true h1
    cases Nat.eq_of_beq_eq_true h2
    cases Nat.eq_of_beq_eq_true h4
    have h5 := of_decide_eq_true h5
    have h6 := of_decide_eq_true h6
    have h7 : kd ≠ 2 := by
      rintro rfl
      cases h3
    refine ct_mk h7 hl (fun j x2 hj => ?_)
    have hj2 := gNth_lt _ _ _ hj
    rw [hl] at hj2
    obtain ⟨u1, u2⟩ := hx j x2 hj
    refine ⟨(x, y), ?_, by show x ≤ _; omega, by show _ ≤ y; omega⟩
    show cond (Nat.ble 0 j && Nat.blt j n) (gNth [(x, y)] ((j - 0) % 1)) none = some (x, y)
    rw [Nat.ble_eq_true_of_le (Nat.zero_le j), show Nat.blt j n = true from Nat.ble_eq_true_of_le (show j.succ ≤ n from hj2), Nat.mod_one]
    rfl
  · cases h
section HOL
variable {M : Mem} {vs : List Value} {l : List Int32}
theorem gf_30 {st : List Value} {ini : Bool} (hM : gNth M 633 = some (.inr (11, vs))) (hv : gNth vs 5 = some (.ref 635)) : gGet (.getfield 30) none 11 ini (.ref 633 :: st) M = some (.ref 635 :: st, M) := by
  show (match gOwn fRs 11 30, gNth M 633 with
    | some (ci, k, _), some (.inr (c, fs)) => match Nat.beq c ci, gNth fs k with
      | true, some v => some (v :: st, M)
      | _, _ => none
    | _, _ => none) = _
  rw [hM]
  show (match Nat.beq 11 11, gNth vs 5 with
    | true, some v => some (v :: st, M)
    | _, _ => none) = _
  rw [hv]
theorem gf_56 {st : List Value} {ini : Bool} (hM : gNth M 633 = some (.inr (11, vs))) (hv : gNth vs 13 = some (.ref 643)) : gGet (.getfield 56) none 11 ini (.ref 633 :: st) M = some (.ref 643 :: st, M) := by
  show (match gOwn fRs 11 56, gNth M 633 with
    | some (ci, k, _), some (.inr (c, fs)) => match Nat.beq c ci, gNth fs k with
      | true, some v => some (v :: st, M)
      | _, _ => none
    | _, _ => none) = _
  rw [hM]
  show (match Nat.beq 11 11, gNth vs 13 with
    | true, some v => some (v :: st, M)
    | _, _ => none) = _
  rw [hv]
theorem gf_59 {st : List Value} {ini : Bool} (hM : gNth M 633 = some (.inr (11, vs))) (hv : gNth vs 14 = some (.ref 644)) : gGet (.getfield 59) none 11 ini (.ref 633 :: st) M = some (.ref 644 :: st, M) := by
  show (match gOwn fRs 11 59, gNth M 633 with
    | some (ci, k, _), some (.inr (c, fs)) => match Nat.beq c ci, gNth fs k with
      | true, some v => some (v :: st, M)
      | _, _ => none
    | _, _ => none) = _
  rw [hM]
  show (match Nat.beq 11 11, gNth vs 14 with
    | true, some v => some (v :: st, M)
    | _, _ => none) = _
  rw [hv]
theorem gf_62 {st : List Value} {ini : Bool} (hM : gNth M 633 = some (.inr (11, vs))) (hv : gNth vs 15 = some (.ref 645)) : gGet (.getfield 62) none 11 ini (.ref 633 :: st) M = some (.ref 645 :: st, M) := by
  show (match gOwn fRs 11 62, gNth M 633 with
    | some (ci, k, _), some (.inr (c, fs)) => match Nat.beq c ci, gNth fs k with
      | true, some v => some (v :: st, M)
      | _, _ => none
    | _, _ => none) = _
  rw [hM]
  show (match Nat.beq 11 11, gNth vs 15 with
    | true, some v => some (v :: st, M)
    | _, _ => none) = _
  rw [hv]
theorem gf_65 {st : List Value} {ini : Bool} (hM : gNth M 633 = some (.inr (11, vs))) (hv : gNth vs 16 = some (.ref 646)) : gGet (.getfield 65) none 11 ini (.ref 633 :: st) M = some (.ref 646 :: st, M) := by
  show (match gOwn fRs 11 65, gNth M 633 with
    | some (ci, k, _), some (.inr (c, fs)) => match Nat.beq c ci, gNth fs k with
      | true, some v => some (v :: st, M)
      | _, _ => none
    | _, _ => none) = _
  rw [hM]
  show (match Nat.beq 11 11, gNth vs 16 with
    | true, some v => some (v :: st, M)
    | _, _ => none) = _
  rw [hv]
theorem gf_68 {st : List Value} {ini : Bool} (hM : gNth M 633 = some (.inr (11, vs))) (hv : gNth vs 17 = some (.ref 647)) : gGet (.getfield 68) none 11 ini (.ref 633 :: st) M = some (.ref 647 :: st, M) := by
  show (match gOwn fRs 11 68, gNth M 633 with
    | some (ci, k, _), some (.inr (c, fs)) => match Nat.beq c ci, gNth fs k with
      | true, some v => some (v :: st, M)
      | _, _ => none
    | _, _ => none) = _
  rw [hM]
  show (match Nat.beq 11 11, gNth vs 17 with
    | true, some v => some (v :: st, M)
    | _, _ => none) = _
  rw [hv]
theorem gf_83 {st : List Value} {ini : Bool} (hM : gNth M 633 = some (.inr (11, vs))) (hv : gNth vs 33 = some (.ref 649)) : gGet (.getfield 83) none 11 ini (.ref 633 :: st) M = some (.ref 649 :: st, M) := by
  show (match gOwn fRs 11 83, gNth M 633 with
    | some (ci, k, _), some (.inr (c, fs)) => match Nat.beq c ci, gNth fs k with
      | true, some v => some (v :: st, M)
      | _, _ => none
    | _, _ => none) = _
  rw [hM]
  show (match Nat.beq 11 11, gNth vs 33 with
    | true, some v => some (v :: st, M)
    | _, _ => none) = _
  rw [hv]
theorem ia_g {a : Nat} {st : List Value} {ini : Bool} {j x : Int32} (hs : gNth M a = some (.inl (1, .inl l))) (h0 : gAt l j = some x) : gGet .iaload none 11 ini (.int j :: .ref a :: st) M = some (.int x :: st, M) := by
  show (match gNth M a with
    | some (.inl (1, .inl l)) => match gAt l j with
      | some x => some (Value.int x :: st, M)
      | none => none
    | _ => none) = _
  rw [hs]
  show (match gAt l j with
      | some x => some (Value.int x :: st, M)
      | none => none) = _
  rw [h0]
theorem ba_g {a : Nat} {st : List Value} {ini : Bool} {j x : Int32} (hs : gNth M a = some (.inl (3, .inl l))) (h0 : gAt l j = some x) : gGet .baload none 11 ini (.int j :: .ref a :: st) M = some (.int x :: st, M) := by
  show (match gNth M a with
    | some (.inl (0, .inl l)) => match gAt l j with
      | some x => some (Value.int x :: st, M)
      | none => none
    | some (.inl (3, .inl l)) => match gAt l j with
      | some x => some (Value.int x :: st, M)
      | none => none
    | _ => none) = _
  rw [hs]
  show (match gAt l j with
      | some x => some (Value.int x :: st, M)
      | none => none) = _
  rw [h0]
theorem bs_g {a : Nat} {st : List Value} {ini : Bool} {j x z : Int32} (hs : gNth M a = some (.inl (3, .inl l))) (h0 : gAt l j = some x) : gGet .bastore none 11 ini (.int z :: .int j :: .ref a :: st) M = some (st, gPut M a (.inl (3, .inl (gPut l j.toNatClampNeg (vp_nar .boolean z))))) := by
  show (match gNth M a with
    | some (.inl (0, .inl l)) => match gAt l j with
      | some _ => some (st, gPut M a (.inl (0, .inl (gPut l j.toNatClampNeg (vp_nar .byte z)))))
      | none => none
    | some (.inl (3, .inl l)) => match gAt l j with
      | some _ => some (st, gPut M a (.inl (3, .inl (gPut l j.toNatClampNeg (vp_nar .boolean z)))))
      | none => none
    | _ => none) = _
  rw [hs]
  show (match gAt l j with
      | some _ => some (st, gPut M a (.inl (3, .inl (gPut l j.toNatClampNeg (vp_nar .boolean z)))))
      | none => none) = _
  rw [h0]
theorem recv_ok (hM : gNth M 633 = some (.inr (11, vs))) : gRecv M (.ref 633) 11 = true := by
  show (match gNth M 633 with
    | some (.inr (c, _)) => Nat.beq c 11
    | _ => false) = true
  rw [hM]
  rfl
theorem cal_of (hM : gNth M 633 = some (.inr (11, vs))) {kk c : Int32} {rest : List Value} (hr : gRoom rest = true) : gCal (.invokevirtual 136) 11 (.int kk :: .int c :: .ref 633 :: rest) M = some (.inr (146, [some (.ref 633), some (.int c), some (.int kk)], rest)) := by
  show @cond (Option ((List Value × Mem) ⊕ (Nat × Lo × List Value))) (true && gRecv M (.ref 633) 11 && gRoom rest && true) (some (.inr (146, [some (.ref 633), some (.int c), some (.int kk)], rest))) none = _
  rw [recv_ok hM, hr]
  rfl
theorem cal_is (hM : gNth M 633 = some (.inr (11, vs))) {kk c : Int32} {rest : List Value} (hr : gRoom rest = true) : gCal (.invokevirtual 334) 11 (.int kk :: .int c :: .ref 633 :: rest) M = some (.inr (186, [some (.ref 633), some (.int c), some (.int kk)], rest)) := by
  show @cond (Option ((List Value × Mem) ⊕ (Nat × Lo × List Value))) (true && gRecv M (.ref 633) 11 && gRoom rest && true) (some (.inr (186, [some (.ref 633), some (.int c), some (.int kk)], rest))) none = _
  rw [recv_ok hM, hr]
  rfl
theorem gs_7 {d me pc n : Nat} {ls ls0 : Lo} {st rest : List Value} {o : Nat} {y : MethodName} {cc : ByteArray} {mx : Nat} {ret : Option FieldType} {np kf id : Nat} {tab : List (Nat × Nat × Instr)} {i : Instr} (hrow : gNth mRs me = some (o, y, cc, mx, ret, np, kf, tab)) (hl : gLook tab pc = some (7, i)) (h : gCal i o st M = some (.inr (id, ls0, rest))) : go none (n + 1) (d + 1) me pc ls st M = gThen (go none n d id 0 ls0 [] M) (fun v M' c s => gAdd c s (go none n (d + 1) me (pc + 3) ls (v.toList ++ rest) M')) := by
  rw [go_succ]
  unfold gStep
  rw [hrow]
  dsimp only
  rw [hl]
  dsimp only
  rw [h]
  rfl
end HOL
