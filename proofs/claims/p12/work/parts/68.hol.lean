/-! BY HAND: the reference's holds(x, c), for a line that is well formed -/
noncomputable def mfB (k g : Nat) : Bool := match gNth sG 61 with
  | some (.inl (11, fs)) => (match gNth fs k with
    | some (.inr n) => Nat.beq n (2 * g + 1)
    | _ => false)
  | _ => false
theorem TM.mfld {M : Mem} (hT : TM sT sG M) : ∃ vs, gNth M 633 = some (.inr (11, vs)) ∧ ∀ k g a, mfB k g = true → gNth sU g = some (some a) → gNth vs k = some (.ref a) := by
  have h1 := sG_61
  cases e1 : gNth sG 61 with
  | none => rw [e1] at h1; exact absurd h1 (by decide)
  | some t => ?_
  rw [e1] at h1
  obtain ⟨a1, b1, c1⟩ := hT.at sT_633 e1
  have q1 : ∃ fs, t = .inl (11, fs) := by
    revert h1
    split
    · intro _
      exact ⟨_, (Option.some.inj ‹_›)⟩
    · intro h; cases h
  obtain ⟨fs, rfl⟩ := q1
  obtain ⟨vs, rfl, v1, v2⟩ := c1
  refine ⟨vs, b1, fun k g a hk hu => ?_⟩
  unfold mfB at hk
  rw [e1] at hk
  have hk : (match gNth fs k with
    | some (.inr n) => Nat.beq n (2 * g + 1)
    | _ => false) = true := hk
  cases e3 : gNth fs k with
  | none => rw [e3] at hk; cases hk
  | some ft => ?_
  rw [e3] at hk
  obtain ⟨v, v3, v4⟩ := v2 k _ e3
  rcases ft with p | n
  · cases hk
  · cases Nat.eq_of_beq_eq_true hk
    rcases v4 with ⟨b, rfl, hb⟩ | ⟨hk, _⟩
    · have hb : gNth sT b = some (2 * g / 2) := hb
      rw [Nat.mul_div_cancel_left _ (by decide : 0 < 2)] at hb
      rw [v3, sU_ok _ _ _ hb hu]
    · have hk : 2 * g % 2 = 1 := hk
      omega
noncomputable def rwB (g kd n : Nat) (lo hi : Int) : Bool := match gNth sG g with
  | some (.inr (q, m, .inl sg)) => Nat.beq q kd && (Nat.beq m n && (!Nat.beq q 2 && sgIn sg (fun p => decide (lo ≤ p.1) && decide (p.2 ≤ hi))))
  | _ => false
theorem TM.mrow {M : Mem} (hT : TM sT sG M) {a g kd n : Nat} {lo hi : Int} (ha : gNth sT a = some g) (h : rwB g kd n lo hi = true) : ∃ l : List Int32, gNth M a = some (.inl (kd, .inl l)) ∧ l.length = n ∧ ∀ j x, gNth l j = some x → lo ≤ x.toInt ∧ x.toInt ≤ hi := by
  unfold rwB at h
  split at h
  · rename_i q m sg e
    obtain ⟨h1, h⟩ := and_t h
    obtain ⟨h2, h⟩ := and_t h
    obtain ⟨h3, h4⟩ := and_t h
    cases Nat.eq_of_beq_eq_true h1
    cases Nat.eq_of_beq_eq_true h2
    have h5 : kd ≠ 2 := by
      rintro rfl
      cases h3
    obtain ⟨e1, e2, e3⟩ := hT.at ha e
    obtain ⟨l, rfl, l1, l2⟩ := ct_int h5 e3
    refine ⟨l, e2, l1, fun j x hx => ?_⟩
    obtain ⟨p, p1, p2, p3⟩ := l2 j x hx
    have h6 := sg_at h4 p1
    obtain ⟨h7, h8⟩ := and_t h6
    have h7 := of_decide_eq_true h7
    have h8 := of_decide_eq_true h8
    constructor <;> omega
  · cases h
theorem TM.putrow {M : Mem} (hT : TM sT sG M) {a g kd n : Nat} {lo hi : Int} {l : List Int32} (ha : gNth sT a = some g) (h : (match gNth sG g with
    | some (.inr (q, m, .inl [(0, m2, 1, [(x, y)])])) => Nat.beq q kd && (Nat.beq m n && (!Nat.beq q 2 && (Nat.beq m2 n && (decide (x ≤ lo) && decide (hi ≤ y)))))
    | _ => false) = true) (hl : l.length = n) (hx : ∀ j x, gNth l j = some x → lo ≤ x.toInt ∧ x.toInt ≤ hi) : TM sT sG (gPut M a (.inl (kd, .inl l))) := by
  refine hT.put (fun g2 t w1 w2 => ?_)
  rw [ha] at w1
  cases w1
  rw [w2] at h
  split at h
  · rename_i q m m2 x y e
    cases e
    obtain ⟨h1, h⟩ := and_t h
    obtain ⟨h2, h⟩ := and_t h
    obtain ⟨h3, h⟩ := and_t h
    obtain ⟨h4, h⟩ := and_t h
    obtain ⟨h5, h6⟩ := and_t h
    cases Nat.eq_of_beq_eq_true h1
    cases Nat.eq_of_beq_eq_true h2
    cases Nat.eq_of_beq_eq_true h4
    have h5 := of_decide_eq_true h5
    have h6 := of_decide_eq_true h6
    have h7 : kd ≠ 2 := by
      rintro rfl
      cases h3
    refine ct_mk h7 hl (fun j x2 hj => ?_)
    have hj2 := gNth_lt _ _ _ hj
    rw [hl] at hj2
    obtain ⟨u1, u2⟩ := hx j x2 hj
    refine ⟨(x, y), ?_, by show x ≤ _; omega, by show _ ≤ y; omega⟩
    show cond (Nat.ble 0 j && Nat.blt j n) (gNth [(x, y)] ((j - 0) % 1)) none = some (x, y)
    rw [Nat.ble_eq_true_of_le (Nat.zero_le j), show Nat.blt j n = true from Nat.ble_eq_true_of_le (show j.succ ≤ n from hj2), Nat.mod_one]
    rfl
  · cases h
section HOL
variable {M : Mem} {vs : List Value} {l : List Int32}
theorem gf_30 {st : List Value} {ini : Bool} (hM : gNth M 633 = some (.inr (11, vs))) (hv : gNth vs 5 = some (.ref 635)) : gGet (.getfield 30) none 11 ini (.ref 633 :: st) M = some (.ref 635 :: st, M) := by
  show (match gOwn fRs 11 30, gNth M 633 with
    | some (ci, k, _), some (.inr (c, fs)) => match Nat.beq c ci, gNth fs k with
      | true, some v => some (v :: st, M)
      | _, _ => none
    | _, _ => none) = _
  rw [hM]
  show (match Nat.beq 11 11, gNth vs 5 with
    | true, some v => some (v :: st, M)
    | _, _ => none) = _
  rw [hv]
theorem gf_56 {st : List Value} {ini : Bool} (hM : gNth M 633 = some (.inr (11, vs))) (hv : gNth vs 13 = some (.ref 643)) : gGet (.getfield 56) none 11 ini (.ref 633 :: st) M = some (.ref 643 :: st, M) := by
  show (match gOwn fRs 11 56, gNth M 633 with
    | some (ci, k, _), some (.inr (c, fs)) => match Nat.beq c ci, gNth fs k with
      | true, some v => some (v :: st, M)
      | _, _ => none
    | _, _ => none) = _
  rw [hM]
  show (match Nat.beq 11 11, gNth vs 13 with
    | true, some v => some (v :: st, M)
    | _, _ => none) = _
  rw [hv]
theorem gf_59 {st : List Value} {ini : Bool} (hM : gNth M 633 = some (.inr (11, vs))) (hv : gNth vs 14 = some (.ref 644)) : gGet (.getfield 59) none 11 ini (.ref 633 :: st) M = some (.ref 644 :: st, M) := by
  show (match gOwn fRs 11 59, gNth M 633 with
    | some (ci, k, _), some (.inr (c, fs)) => match Nat.beq c ci, gNth fs k with
      | true, some v => some (v :: st, M)
      | _, _ => none
    | _, _ => none) = _
  rw [hM]
  show (match Nat.beq 11 11, gNth vs 14 with
    | true, some v => some (v :: st, M)
    | _, _ => none) = _
  rw [hv]
theorem gf_62 {st : List Value} {ini : Bool} (hM : gNth M 633 = some (.inr (11, vs))) (hv : gNth vs 15 = some (.ref 645)) : gGet (.getfield 62) none 11 ini (.ref 633 :: st) M = some (.ref 645 :: st, M) := by
  show (match gOwn fRs 11 62, gNth M 633 with
    | some (ci, k, _), some (.inr (c, fs)) => match Nat.beq c ci, gNth fs k with
      | true, some v => some (v :: st, M)
      | _, _ => none
    | _, _ => none) = _
  rw [hM]
  show (match Nat.beq 11 11, gNth vs 15 with
    | true, some v => some (v :: st, M)
    | _, _ => none) = _
  rw [hv]
theorem gf_65 {st : List Value} {ini : Bool} (hM : gNth M 633 = some (.inr (11, vs))) (hv : gNth vs 16 = some (.ref 646)) : gGet (.getfield 65) none 11 ini (.ref 633 :: st) M = some (.ref 646 :: st, M) := by
  show (match gOwn fRs 11 65, gNth M 633 with
    | some (ci, k, _), some (.inr (c, fs)) => match Nat.beq c ci, gNth fs k with
      | true, some v => some (v :: st, M)
      | _, _ => none
    | _, _ => none) = _
  rw [hM]
  show (match Nat.beq 11 11, gNth vs 16 with
    | true, some v => some (v :: st, M)
    | _, _ => none) = _
  rw [hv]
theorem gf_68 {st : List Value} {ini : Bool} (hM : gNth M 633 = some (.inr (11, vs))) (hv : gNth vs 17 = some (.ref 647)) : gGet (.getfield 68) none 11 ini (.ref 633 :: st) M = some (.ref 647 :: st, M) := by
  show (match gOwn fRs 11 68, gNth M 633 with
    | some (ci, k, _), some (.inr (c, fs)) => match Nat.beq c ci, gNth fs k with
      | true, some v => some (v :: st, M)
      | _, _ => none
    | _, _ => none) = _
  rw [hM]
  show (match Nat.beq 11 11, gNth vs 17 with
    | true, some v => some (v :: st, M)
    | _, _ => none) = _
  rw [hv]
theorem gf_83 {st : List Value} {ini : Bool} (hM : gNth M 633 = some (.inr (11, vs))) (hv : gNth vs 33 = some (.ref 649)) : gGet (.getfield 83) none 11 ini (.ref 633 :: st) M = some (.ref 649 :: st, M) := by
  show (match gOwn fRs 11 83, gNth M 633 with
    | some (ci, k, _), some (.inr (c, fs)) => match Nat.beq c ci, gNth fs k with
      | true, some v => some (v :: st, M)
      | _, _ => none
    | _, _ => none) = _
  rw [hM]
  show (match Nat.beq 11 11, gNth vs 33 with
    | true, some v => some (v :: st, M)
    | _, _ => none) = _
  rw [hv]
theorem ia_g {a : Nat} {st : List Value} {ini : Bool} {j x : Int32} (hs : gNth M a = some (.inl (1, .inl l))) (h0 : gAt l j = some x) : gGet .iaload none 11 ini (.int j :: .ref a :: st) M = some (.int x :: st, M) := by
  show (match gNth M a with
    | some (.inl (1, .inl l)) => match gAt l j with
      | some x => some (Value.int x :: st, M)
      | none => none
    | _ => none) = _
  rw [hs]
  show (match gAt l j with
      | some x => some (Value.int x :: st, M)
      | none => none) = _
  rw [h0]
theorem ba_g {a : Nat} {st : List Value} {ini : Bool} {j x : Int32} (hs : gNth M a = some (.inl (3, .inl l))) (h0 : gAt l j = some x) : gGet .baload none 11 ini (.int j :: .ref a :: st) M = some (.int x :: st, M) := by
  show (match gNth M a with
    | some (.inl (0, .inl l)) => match gAt l j with
      | some x => some (Value.int x :: st, M)
      | none => none
    | some (.inl (3, .inl l)) => match gAt l j with
      | some x => some (Value.int x :: st, M)
      | none => none
    | _ => none) = _
  rw [hs]
  show (match gAt l j with
      | some x => some (Value.int x :: st, M)
      | none => none) = _
  rw [h0]
theorem bs_g {a : Nat} {st : List Value} {ini : Bool} {j x z : Int32} (hs : gNth M a = some (.inl (3, .inl l))) (h0 : gAt l j = some x) : gGet .bastore none 11 ini (.int z :: .int j :: .ref a :: st) M = some (st, gPut M a (.inl (3, .inl (gPut l j.toNatClampNeg (vp_nar .boolean z))))) := by
  show (match gNth M a with
    | some (.inl (0, .inl l)) => match gAt l j with
      | some _ => some (st, gPut M a (.inl (0, .inl (gPut l j.toNatClampNeg (vp_nar .byte z)))))
      | none => none
    | some (.inl (3, .inl l)) => match gAt l j with
      | some _ => some (st, gPut M a (.inl (3, .inl (gPut l j.toNatClampNeg (vp_nar .boolean z)))))
      | none => none
    | _ => none) = _
  rw [hs]
  show (match gAt l j with
      | some _ => some (st, gPut M a (.inl (3, .inl (gPut l j.toNatClampNeg (vp_nar .boolean z)))))
      | none => none) = _
  rw [h0]
theorem recv_ok (hM : gNth M 633 = some (.inr (11, vs))) : gRecv M (.ref 633) 11 = true := by
  show (match gNth M 633 with
    | some (.inr (c, _)) => Nat.beq c 11
    | _ => false) = true
  rw [hM]
  rfl
theorem cal_of (hM : gNth M 633 = some (.inr (11, vs))) {kk c : Int32} {rest : List Value} (hr : gRoom rest = true) : gCal (.invokevirtual 136) 11 (.int kk :: .int c :: .ref 633 :: rest) M = some (.inr (146, [some (.ref 633), some (.int c), some (.int kk)], rest)) := by
  show @cond (Option ((List Value × Mem) ⊕ (Nat × Lo × List Value))) (true && gRecv M (.ref 633) 11 && gRoom rest && true) (some (.inr (146, [some (.ref 633), some (.int c), some (.int kk)], rest))) none = _
  rw [recv_ok hM, hr]
  rfl
theorem cal_is (hM : gNth M 633 = some (.inr (11, vs))) {kk c : Int32} {rest : List Value} (hr : gRoom rest = true) : gCal (.invokevirtual 334) 11 (.int kk :: .int c :: .ref 633 :: rest) M = some (.inr (186, [some (.ref 633), some (.int c), some (.int kk)], rest)) := by
  show @cond (Option ((List Value × Mem) ⊕ (Nat × Lo × List Value))) (true && gRecv M (.ref 633) 11 && gRoom rest && true) (some (.inr (186, [some (.ref 633), some (.int c), some (.int kk)], rest))) none = _
  rw [recv_ok hM, hr]
  rfl
theorem gs_7 {d me pc n : Nat} {ls ls0 : Lo} {st rest : List Value} {o : Nat} {y : MethodName} {cc : ByteArray} {mx : Nat} {ret : Option FieldType} {np kf id : Nat} {tab : List (Nat × Nat × Instr)} {i : Instr} (hrow : gNth mRs me = some (o, y, cc, mx, ret, np, kf, tab)) (hl : gLook tab pc = some (7, i)) (h : gCal i o st M = some (.inr (id, ls0, rest))) : go none (n + 1) (d + 1) me pc ls st M = gThen (go none n d id 0 ls0 [] M) (fun v M' c s => gAdd c s (go none n (d + 1) me (pc + 3) ls (v.toList ++ rest) M')) := by
  rw [go_succ]
  unfold gStep
  rw [hrow]
  dsimp only
  rw [hl]
  dsimp only
  rw [h]
  rfl
end HOL
/-! BY HAND: the loop of the reference's holds -/
section HOL2
variable {M : Mem} {vs : List Value} {x c t n k w : Int32} {a b : Option Value} {e : Nat} {v : Option Value} {M' : Mem} {tr ls sg nm lt : List Int32}
theorem hol_39 {tt : Int32} (hM : gNth M 633 = some (.inr (11, vs))) (h14 : gNth vs 14 = some (.ref 644)) (hto : gNth M 644 = some (.inl (1, .inl lt))) (htt : gAt lt x = some tt) (hz : Ev none (e + 4) 187 (if 200 * t + tt ≤ k then 360 else 56) [some (.ref 633), some (.int x), some (.int c), some (.int t), some (.int n), some (.int k), a, b] [] M v M' 0 0) : Ev none (e + 4) 187 39 [some (.ref 633), some (.int x), some (.int c), some (.int t), some (.int n), some (.int k), a, b] [] M v M' 0 0 := by
  refine Ev.step (pc' := 47) (ls' := [some (.ref 633), some (.int x), some (.int c), some (.int t), some (.int n), some (.int k), a, b]) (st' := [.ref 633, .int (200 * t), .int k]) (M1 := M) 5 (fun n => rfl) ?_
  refine Ev.step 1 (gs_3 rfl rfl (gf_59 hM h14)) ?_
  refine Ev.step (pc' := 51) (ls' := [some (.ref 633), some (.int x), some (.int c), some (.int t), some (.int n), some (.int k), a, b]) (st' := [.int x, .ref 644, .int (200 * t), .int k]) (M1 := M) 1 (fun n => rfl) ?_
  refine Ev.step 1 (gs_3 rfl rfl (ia_g hto htt)) ?_
  exact Ev.step (pc' := if 200 * t + tt ≤ k then 360 else 56) (ls' := [some (.ref 633), some (.int x), some (.int c), some (.int t), some (.int n), some (.int k), a, b]) (st' := []) (M1 := M) 2 (fun n => rfl) hz
theorem hol_354  (hz : Ev none (e + 4) 187 39 [some (.ref 633), some (.int x), some (.int c), some (.int t), some (.int n), some (.int (k + 1)), a, b] [] M v M' 0 0) : Ev none (e + 4) 187 354 [some (.ref 633), some (.int x), some (.int c), some (.int t), some (.int n), some (.int k), a, b] [] M v M' 0 0 := by
  exact Ev.step (pc' := 39) (ls' := [some (.ref 633), some (.int x), some (.int c), some (.int t), some (.int n), some (.int (k + 1)), a, b]) (st' := []) (M1 := M) 2 (fun n => rfl) hz
theorem hol_56 (hM : gNth M 633 = some (.inr (11, vs))) (h15 : gNth vs 15 = some (.ref 645)) (hst : gNth M 645 = some (.inl (1, .inl ls))) (hw : gAt ls k = some w) (hz : Ev none (e + 4) 187 (if w = 20 then 72 else 101) [some (.ref 633), some (.int x), some (.int c), some (.int t), some (.int n), some (.int k), (some (.int w)), b] [] M v M' 0 0) : Ev none (e + 4) 187 56 [some (.ref 633), some (.int x), some (.int c), some (.int t), some (.int n), some (.int k), a, b] [] M v M' 0 0 := by
  refine Ev.step (pc' := 57) (ls' := [some (.ref 633), some (.int x), some (.int c), some (.int t), some (.int n), some (.int k), a, b]) (st' := [.ref 633]) (M1 := M) 1 (fun n => rfl) ?_
  refine Ev.step 1 (gs_3 rfl rfl (gf_62 hM h15)) ?_
  refine Ev.step (pc' := 62) (ls' := [some (.ref 633), some (.int x), some (.int c), some (.int t), some (.int n), some (.int k), a, b]) (st' := [.int k, .ref 645]) (M1 := M) 1 (fun n => rfl) ?_
  refine Ev.step 1 (gs_3 rfl rfl (ia_g hst hw)) ?_
  exact Ev.step (pc' := if w = 20 then 72 else 101) (ls' := [some (.ref 633), some (.int x), some (.int c), some (.int t), some (.int n), some (.int k), (some (.int w)), b]) (st' := []) (M1 := M) 4 (fun n => rfl) hz
theorem hol_72 {y : Int32} (hM : gNth M 633 = some (.inr (11, vs))) (h33 : gNth vs 33 = some (.ref 649)) (htr : gNth M 649 = some (.inl (3, .inl tr))) (hy : gAt tr (n - 1) = some y) (hz : Ev none (e + 4) 187 97 [some (.ref 633), some (.int x), some (.int c), some (.int t), some (.int n), some (.int k), (some (.int w)), b] [.int (if y = 0 then 1 else 0), .int (n - 1), .ref 649] M v M' 0 0) : Ev none (e + 4) 187 72 [some (.ref 633), some (.int x), some (.int c), some (.int t), some (.int n), some (.int k), (some (.int w)), b] [] M v M' 0 0 := by
  refine Ev.step (pc' := 73) (ls' := [some (.ref 633), some (.int x), some (.int c), some (.int t), some (.int n), some (.int k), (some (.int w)), b]) (st' := [.ref 633]) (M1 := M) 1 (fun n => rfl) ?_
  refine Ev.step 1 (gs_3 rfl rfl (gf_83 hM h33)) ?_
  refine Ev.step (pc' := 81) (ls' := [some (.ref 633), some (.int x), some (.int c), some (.int t), some (.int n), some (.int k), (some (.int w)), b]) (st' := [.ref 633, .int (n - 1), .ref 649]) (M1 := M) 4 (fun n => rfl) ?_
  refine Ev.step 1 (gs_3 rfl rfl (gf_83 hM h33)) ?_
  refine Ev.step (pc' := 88) (ls' := [some (.ref 633), some (.int x), some (.int c), some (.int t), some (.int n), some (.int k), (some (.int w)), b]) (st' := [.int (n - 1), .ref 649, .int (n - 1), .ref 649]) (M1 := M) 3 (fun n => rfl) ?_
  refine Ev.step 1 (gs_3 rfl rfl (ba_g htr hy)) ?_
  refine Ev.step (pc' := if y = 0 then 92 else 96) (ls' := [some (.ref 633), some (.int x), some (.int c), some (.int t), some (.int n), some (.int k), (some (.int w)), b]) (st' := [.int (n - 1), .ref 649]) (M1 := M) 1 (fun n => rfl) ?_
  by_cases h0 : y = 0
  · rw [if_pos h0] at hz ⊢
    exact Ev.step (pc' := 97) (ls' := [some (.ref 633), some (.int x), some (.int c), some (.int t), some (.int n), some (.int k), (some (.int w)), b]) (st' := [.int 1, .int (n - 1), .ref 649]) (M1 := M) 2 (fun n => rfl) hz
  · rw [if_neg h0] at hz ⊢
    exact Ev.step (pc' := 97) (ls' := [some (.ref 633), some (.int x), some (.int c), some (.int t), some (.int n), some (.int k), (some (.int w)), b]) (st' := [.int 0, .int (n - 1), .ref 649]) (M1 := M) 1 (fun n => rfl) hz
theorem hol_115 (hM : gNth M 633 = some (.inr (11, vs))) (h33 : gNth vs 33 = some (.ref 649)) (htr : gNth M 649 = some (.inl (3, .inl tr))) (hz : Ev none (e + 4) 187 (if w = 21 then 133 else 163) [some (.ref 633), some (.int x), some (.int c), some (.int t), some (.int (n + -1)), some (.int k), (some (.int w)), b] [.int (n + -1 - 1), .ref 649] M v M' 0 0) : Ev none (e + 4) 187 115 [some (.ref 633), some (.int x), some (.int c), some (.int t), some (.int n), some (.int k), (some (.int w)), b] [] M v M' 0 0 := by
  refine Ev.step (pc' := 119) (ls' := [some (.ref 633), some (.int x), some (.int c), some (.int t), some (.int (n + -1)), some (.int k), (some (.int w)), b]) (st' := [.ref 633]) (M1 := M) 2 (fun n => rfl) ?_
  refine Ev.step 1 (gs_3 rfl rfl (gf_83 hM h33)) ?_
  exact Ev.step (pc' := if w = 21 then 133 else 163) (ls' := [some (.ref 633), some (.int x), some (.int c), some (.int t), some (.int (n + -1)), some (.int k), (some (.int w)), b]) (st' := [.int (n + -1 - 1), .ref 649]) (M1 := M) 6 (fun n => rfl) hz
theorem hol_133 {y y2 : Int32} (hM : gNth M 633 = some (.inr (11, vs))) (h33 : gNth vs 33 = some (.ref 649)) (htr : gNth M 649 = some (.inl (3, .inl tr))) (hy : gAt tr (n - 1) = some y) (hy2 : gAt tr n = some y2) (hz : Ev none (e + 4) 187 190 [some (.ref 633), some (.int x), some (.int c), some (.int t), some (.int n), some (.int k), (some (.int w)), b] [.int (if y = 0 then 0 else if y2 = 0 then 0 else 1), .int (n - 1), .ref 649] M v M' 0 0) : Ev none (e + 4) 187 133 [some (.ref 633), some (.int x), some (.int c), some (.int t), some (.int n), some (.int k), (some (.int w)), b] [.int (n - 1), .ref 649] M v M' 0 0 := by
  refine Ev.step (pc' := 134) (ls' := [some (.ref 633), some (.int x), some (.int c), some (.int t), some (.int n), some (.int k), (some (.int w)), b]) (st' := [.ref 633, .int (n - 1), .ref 649]) (M1 := M) 1 (fun n => rfl) ?_
  refine Ev.step 1 (gs_3 rfl rfl (gf_83 hM h33)) ?_
  refine Ev.step (pc' := 141) (ls' := [some (.ref 633), some (.int x), some (.int c), some (.int t), some (.int n), some (.int k), (some (.int w)), b]) (st' := [.int (n - 1), .ref 649, .int (n - 1), .ref 649]) (M1 := M) 3 (fun n => rfl) ?_
  refine Ev.step 1 (gs_3 rfl rfl (ba_g htr hy)) ?_
  refine Ev.step (pc' := if y = 0 then 159 else 145) (ls' := [some (.ref 633), some (.int x), some (.int c), some (.int t), some (.int n), some (.int k), (some (.int w)), b]) (st' := [.int (n - 1), .ref 649]) (M1 := M) 1 (fun n => rfl) ?_
  by_cases h0 : y = 0
  · rw [if_pos h0] at hz ⊢
    exact Ev.step (pc' := 190) (ls' := [some (.ref 633), some (.int x), some (.int c), some (.int t), some (.int n), some (.int k), (some (.int w)), b]) (st' := [.int 0, .int (n - 1), .ref 649]) (M1 := M) 2 (fun n => rfl) hz
  rw [if_neg h0] at hz ⊢
  refine Ev.step (pc' := 146) (ls' := [some (.ref 633), some (.int x), some (.int c), some (.int t), some (.int n), some (.int k), (some (.int w)), b]) (st' := [.ref 633, .int (n - 1), .ref 649]) (M1 := M) 1 (fun n => rfl) ?_
  refine Ev.step 1 (gs_3 rfl rfl (gf_83 hM h33)) ?_
  refine Ev.step (pc' := 151) (ls' := [some (.ref 633), some (.int x), some (.int c), some (.int t), some (.int n), some (.int k), (some (.int w)), b]) (st' := [.int n, .ref 649, .int (n - 1), .ref 649]) (M1 := M) 1 (fun n => rfl) ?_
  refine Ev.step 1 (gs_3 rfl rfl (ba_g htr hy2)) ?_
  refine Ev.step (pc' := if y2 = 0 then 159 else 155) (ls' := [some (.ref 633), some (.int x), some (.int c), some (.int t), some (.int n), some (.int k), (some (.int w)), b]) (st' := [.int (n - 1), .ref 649]) (M1 := M) 1 (fun n => rfl) ?_
  by_cases h1 : y2 = 0
  · rw [if_pos h1] at hz ⊢
    exact Ev.step (pc' := 190) (ls' := [some (.ref 633), some (.int x), some (.int c), some (.int t), some (.int n), some (.int k), (some (.int w)), b]) (st' := [.int 0, .int (n - 1), .ref 649]) (M1 := M) 2 (fun n => rfl) hz
  · rw [if_neg h1] at hz ⊢
    exact Ev.step (pc' := 190) (ls' := [some (.ref 633), some (.int x), some (.int c), some (.int t), some (.int n), some (.int k), (some (.int w)), b]) (st' := [.int 1, .int (n - 1), .ref 649]) (M1 := M) 2 (fun n => rfl) hz
theorem hol_163 {y y2 : Int32} (hM : gNth M 633 = some (.inr (11, vs))) (h33 : gNth vs 33 = some (.ref 649)) (htr : gNth M 649 = some (.inl (3, .inl tr))) (hy : gAt tr (n - 1) = some y) (hy2 : gAt tr n = some y2) (hz : Ev none (e + 4) 187 190 [some (.ref 633), some (.int x), some (.int c), some (.int t), some (.int n), some (.int k), (some (.int w)), b] [.int (if y = 0 then if y2 = 0 then 0 else 1 else 1), .int (n - 1), .ref 649] M v M' 0 0) : Ev none (e + 4) 187 163 [some (.ref 633), some (.int x), some (.int c), some (.int t), some (.int n), some (.int k), (some (.int w)), b] [.int (n - 1), .ref 649] M v M' 0 0 := by
  refine Ev.step (pc' := 164) (ls' := [some (.ref 633), some (.int x), some (.int c), some (.int t), some (.int n), some (.int k), (some (.int w)), b]) (st' := [.ref 633, .int (n - 1), .ref 649]) (M1 := M) 1 (fun n => rfl) ?_
  refine Ev.step 1 (gs_3 rfl rfl (gf_83 hM h33)) ?_
  refine Ev.step (pc' := 171) (ls' := [some (.ref 633), some (.int x), some (.int c), some (.int t), some (.int n), some (.int k), (some (.int w)), b]) (st' := [.int (n - 1), .ref 649, .int (n - 1), .ref 649]) (M1 := M) 3 (fun n => rfl) ?_
  refine Ev.step 1 (gs_3 rfl rfl (ba_g htr hy)) ?_
  refine Ev.step (pc' := if y = 0 then 175 else 185) (ls' := [some (.ref 633), some (.int x), some (.int c), some (.int t), some (.int n), some (.int k), (some (.int w)), b]) (st' := [.int (n - 1), .ref 649]) (M1 := M) 1 (fun n => rfl) ?_
  by_cases h0 : y = 0
  · rw [if_pos h0] at hz ⊢
    refine Ev.step (pc' := 176) (ls' := [some (.ref 633), some (.int x), some (.int c), some (.int t), some (.int n), some (.int k), (some (.int w)), b]) (st' := [.ref 633, .int (n - 1), .ref 649]) (M1 := M) 1 (fun n => rfl) ?_
    refine Ev.step 1 (gs_3 rfl rfl (gf_83 hM h33)) ?_
    refine Ev.step (pc' := 181) (ls' := [some (.ref 633), some (.int x), some (.int c), some (.int t), some (.int n), some (.int k), (some (.int w)), b]) (st' := [.int n, .ref 649, .int (n - 1), .ref 649]) (M1 := M) 1 (fun n => rfl) ?_
    refine Ev.step 1 (gs_3 rfl rfl (ba_g htr hy2)) ?_
    refine Ev.step (pc' := if y2 = 0 then 189 else 185) (ls' := [some (.ref 633), some (.int x), some (.int c), some (.int t), some (.int n), some (.int k), (some (.int w)), b]) (st' := [.int (n - 1), .ref 649]) (M1 := M) 1 (fun n => rfl) ?_
    by_cases h1 : y2 = 0
    · rw [if_pos h1] at hz ⊢
      exact Ev.step (pc' := 190) (ls' := [some (.ref 633), some (.int x), some (.int c), some (.int t), some (.int n), some (.int k), (some (.int w)), b]) (st' := [.int 0, .int (n - 1), .ref 649]) (M1 := M) 1 (fun n => rfl) hz
    · rw [if_neg h1] at hz ⊢
      exact Ev.step (pc' := 190) (ls' := [some (.ref 633), some (.int x), some (.int c), some (.int t), some (.int n), some (.int k), (some (.int w)), b]) (st' := [.int 1, .int (n - 1), .ref 649]) (M1 := M) 2 (fun n => rfl) hz
  · rw [if_neg h0] at hz ⊢
    exact Ev.step (pc' := 190) (ls' := [some (.ref 633), some (.int x), some (.int c), some (.int t), some (.int n), some (.int k), (some (.int w)), b]) (st' := [.int 1, .int (n - 1), .ref 649]) (M1 := M) 2 (fun n => rfl) hz
theorem hol_s97 {z j y : Int32} (htr : gNth M 649 = some (.inl (3, .inl tr))) (hj : gAt tr j = some y) (hz : Ev none (e + 4) 187 354 [some (.ref 633), some (.int x), some (.int c), some (.int t), some (.int n), some (.int k), a, b] [] (gPut M 649 (.inl (3, .inl (gPut tr j.toNatClampNeg (vp_nar .boolean z))))) v M' 0 0) : Ev none (e + 4) 187 97 [some (.ref 633), some (.int x), some (.int c), some (.int t), some (.int n), some (.int k), a, b] [.int z, .int j, .ref 649] M v M' 0 0 := by
  refine Ev.step 1 (gs_4 rfl rfl (bs_g htr hj)) ?_
  exact Ev.step (pc' := 354) (ls' := [some (.ref 633), some (.int x), some (.int c), some (.int t), some (.int n), some (.int k), a, b]) (st' := []) (M1 := gPut M 649 (.inl (3, .inl (gPut tr j.toNatClampNeg (vp_nar .boolean z))))) 1 (fun n => rfl) hz
theorem hol_s190 {z j y : Int32} (htr : gNth M 649 = some (.inl (3, .inl tr))) (hj : gAt tr j = some y) (hz : Ev none (e + 4) 187 354 [some (.ref 633), some (.int x), some (.int c), some (.int t), some (.int n), some (.int k), a, b] [] (gPut M 649 (.inl (3, .inl (gPut tr j.toNatClampNeg (vp_nar .boolean z))))) v M' 0 0) : Ev none (e + 4) 187 190 [some (.ref 633), some (.int x), some (.int c), some (.int t), some (.int n), some (.int k), a, b] [.int z, .int j, .ref 649] M v M' 0 0 := by
  refine Ev.step 1 (gs_4 rfl rfl (bs_g htr hj)) ?_
  exact Ev.step (pc' := 354) (ls' := [some (.ref 633), some (.int x), some (.int c), some (.int t), some (.int n), some (.int k), a, b]) (st' := []) (M1 := gPut M 649 (.inl (3, .inl (gPut tr j.toNatClampNeg (vp_nar .boolean z))))) 1 (fun n => rfl) hz
theorem hol_s350 {z j y : Int32} (htr : gNth M 649 = some (.inl (3, .inl tr))) (hj : gAt tr j = some y) (hz : Ev none (e + 4) 187 354 [some (.ref 633), some (.int x), some (.int c), some (.int t), some (.int (n + 1)), some (.int k), a, b] [] (gPut M 649 (.inl (3, .inl (gPut tr j.toNatClampNeg (vp_nar .boolean z))))) v M' 0 0) : Ev none (e + 4) 187 350 [some (.ref 633), some (.int x), some (.int c), some (.int t), some (.int n), some (.int k), a, b] [.int z, .int j, .ref 649] M v M' 0 0 := by
  refine Ev.step 1 (gs_4 rfl rfl (bs_g htr hj)) ?_
  exact Ev.step (pc' := 354) (ls' := [some (.ref 633), some (.int x), some (.int c), some (.int t), some (.int (n + 1)), some (.int k), a, b]) (st' := []) (M1 := gPut M 649 (.inl (3, .inl (gPut tr j.toNatClampNeg (vp_nar .boolean z))))) 1 (fun n => rfl) hz
theorem hol_360 {y : Int32} (hM : gNth M 633 = some (.inr (11, vs))) (h33 : gNth vs 33 = some (.ref 649)) (htr : gNth M 649 = some (.inl (3, .inl tr))) (hy : gAt tr 0 = some y) (h01 : y = 0 ∨ y = 1) : Ev none (e + 4) 187 360 [some (.ref 633), some (.int x), some (.int c), some (.int t), some (.int n), some (.int k), a, b] [] M (some (.int y)) M 0 0 := by
  refine Ev.step (pc' := 361) (ls' := [some (.ref 633), some (.int x), some (.int c), some (.int t), some (.int n), some (.int k), a, b]) (st' := [.ref 633]) (M1 := M) 1 (fun n => rfl) ?_
  refine Ev.step 1 (gs_3 rfl rfl (gf_83 hM h33)) ?_
  refine Ev.step (pc' := 365) (ls' := [some (.ref 633), some (.int x), some (.int c), some (.int t), some (.int n), some (.int k), a, b]) (st' := [.int 0, .ref 649]) (M1 := M) 1 (fun n => rfl) ?_
  refine Ev.step 1 (gs_3 rfl rfl (ba_g htr hy)) ?_
  rcases h01 with rfl | rfl
  · exact Ev.ret (fun n => rfl)
  · exact Ev.ret (fun n => rfl)
end HOL2
/-! BY HAND: the reference's holds: a step that asks something of the place -/
section HOL3
variable {M : Mem} {vs : List Value} {x c t n k w : Int32} {a b : Option Value} {e : Nat} {v : Option Value} {M' : Mem} {tr ls sg nm lt : List Int32}
theorem hol_101 (hw : w = 21 ∨ w = 22) (hz : (w = 21 ∨ w = 22) → Ev none (e + 4) 187 115 [some (.ref 633), some (.int x), some (.int c), some (.int t), some (.int n), some (.int k), (some (.int w)), b] [] M v M' 0 0) : Ev none (e + 4) 187 101 [some (.ref 633), some (.int x), some (.int c), some (.int t), some (.int n), some (.int k), (some (.int w)), b] [] M v M' 0 0 := by
  refine Ev.step (pc' := if w = 21 then 115 else 108) (ls' := [some (.ref 633), some (.int x), some (.int c), some (.int t), some (.int n), some (.int k), (some (.int w)), b]) (st' := []) (M1 := M) 3 (fun n => rfl) ?_
  by_cases h0 : w = 21
  · rw [if_pos h0]; exact hz (Or.inl h0)
  · rw [if_neg h0]
    refine Ev.step (pc' := if w = 22 then 115 else 194) (ls' := [some (.ref 633), some (.int x), some (.int c), some (.int t), some (.int n), some (.int k), (some (.int w)), b]) (st' := []) (M1 := M) 3 (fun n => rfl) ?_
    by_cases h1 : w = 22
    · rw [if_pos h1]; exact hz (Or.inr h1)
    · exact absurd (hw.resolve_left h0) h1
theorem hol_101e (h1 : w ≠ 21) (h2 : w ≠ 22) (hz : Ev none (e + 4) 187 194 [some (.ref 633), some (.int x), some (.int c), some (.int t), some (.int n), some (.int k), (some (.int w)), b] [] M v M' 0 0) : Ev none (e + 4) 187 101 [some (.ref 633), some (.int x), some (.int c), some (.int t), some (.int n), some (.int k), (some (.int w)), b] [] M v M' 0 0 := by
  refine Ev.step (pc' := if w = 21 then 115 else 108) (ls' := [some (.ref 633), some (.int x), some (.int c), some (.int t), some (.int n), some (.int k), (some (.int w)), b]) (st' := []) (M1 := M) 3 (fun n => rfl) ?_
  rw [if_neg h1]
  refine Ev.step (pc' := if w = 22 then 115 else 194) (ls' := [some (.ref 633), some (.int x), some (.int c), some (.int t), some (.int n), some (.int k), (some (.int w)), b]) (st' := []) (M1 := M) 3 (fun n => rfl) ?_
  rw [if_neg h2]
  exact hz
theorem nthx {α : Type} {l l2 : List α} (h : ∀ i, gNth l i = gNth l2 i) : l = l2 := List.ext_getElem? (fun i => by rw [← nth_eq, ← nth_eq]; exact h i)
theorem pure_ok {M : Mem} {M1 : Mem} (hF : Frm sT [] M M1) : M1 = M := by
  refine nthx (fun i => ?_)
  cases h : gNth M i with
  | none =>
    have h2 : M.length ≤ i := by
      rw [nth_eq] at h
      exact List.getElem?_eq_none_iff.mp h
    rw [nth_eq]
    exact List.getElem?_eq_none_iff.mpr (by rw [hF.1]; exact h2)
  | some q => ?_
  rcases q with ⟨ty, y⟩ | ⟨ci, fs⟩
  · obtain ⟨y', e1, e2⟩ := hF.2.2 _ _ _ h
    rw [e1, e2 (fun g _ hm => by cases hm)]
  · obtain ⟨fs', e1, e2, e3⟩ := hF.2.1 _ _ _ h
    rw [e1, nthx (fun i => e3 i (fun hm => by cases hm))]
set_option maxRecDepth 100000 in
theorem mR_146 : (gNth mRs 146).map (fun q => q.2.2.2.1) = some 3 := by decide +kernel
set_option maxRecDepth 100000 in
theorem mR_186 : (gNth mRs 186).map (fun q => q.2.2.2.1) = some 3 := by decide +kernel
theorem run_of {d : Nat} {kk : Int32} (hT : TM sT sG M) (hc : 0 ≤ c.toInt ∧ c.toInt ≤ 255) (hk : 0 ≤ kk.toInt ∧ kk.toInt ≤ 6) : ∃ r : Int32, Ev none d 146 0 [some (.ref 633), some (.int c), some (.int kk)] [] M (some (.int r)) M 0 0 := by
  have hm := mR_146
  cases hq : gNth mRs 146 with
  | none => rw [hq] at hm; cases hm
  | some q => ?_
  rw [hq] at hm
  have hm : q.2.2.2.1 = 3 := Option.some.inj hm
  obtain ⟨r, M1, h1, _, h3, s, hs, ⟨h4, _⟩, _⟩ := kX11_of_ok d M [.ref 633, .int c, .int kk] q (Nat.zero_le d) hq (Two.mk rfl (Two.mk ⟨c, rfl, hc.1, hc.2⟩ (Two.mk ⟨kk, rfl, hk.1, hk.2⟩ trivial))) ⟨[], trivial, fun f hf => by cases hf⟩ hT
  cases pure_ok h3
  cases List.mem_singleton.mp hs
  rw [hm] at h1
  rcases r with _ | r
  · exact h4.elim
  · obtain ⟨y, rfl, _⟩ := h4
    exact ⟨y, h1⟩
theorem run_is {d : Nat} {kk : Int32} (hT : TM sT sG M) (hc : 0 ≤ c.toInt ∧ c.toInt ≤ 255) : ∃ r : Int32, Ev none (d + 3) 186 0 [some (.ref 633), some (.int c), some (.int kk)] [] M (some (.int r)) M 0 0 := by
  have hm := mR_186
  cases hq : gNth mRs 186 with
  | none => rw [hq] at hm; cases hm
  | some q => ?_
  rw [hq] at hm
  have hm : q.2.2.2.1 = 3 := Option.some.inj hm
  obtain ⟨r, M1, h1, _, h3, s, hs, ⟨h4, _⟩, _⟩ := kX11_is_ok (d + 3) M [.ref 633, .int c, .int kk] q (Nat.le_add_left 3 d) hq (Two.mk rfl (Two.mk ⟨c, rfl, hc.1, hc.2⟩ (Two.mk ⟨kk, rfl, (i32_lt kk).1, (i32_lt kk).2⟩ trivial))) ⟨[], trivial, fun f hf => by cases hf⟩ hT
  cases pure_ok h3
  cases List.mem_singleton.mp hs
  rw [hm] at h1
  rcases r with _ | r
  · exact h4.elim
  · obtain ⟨y, rfl, _⟩ := h4
    exact ⟨y, h1⟩
theorem hol_241 {kk : Int32} (hM : gNth M 633 = some (.inr (11, vs))) (hT : TM sT sG M) (hc : 0 ≤ c.toInt ∧ c.toInt ≤ 255) (hk : 0 ≤ kk.toInt ∧ kk.toInt ≤ 6) : ∃ r : Int32, ∀ {v : Option Value} {M' : Mem}, Ev none (e + 4) 187 244 [some (.ref 633), some (.int x), some (.int c), some (.int t), some (.int n), some (.int k), (some (.int w)), b] [.int r] M v M' 0 0 → Ev none (e + 4) 187 241 [some (.ref 633), some (.int x), some (.int c), some (.int t), some (.int n), some (.int k), (some (.int w)), b] [.int kk, .int c, .ref 633] M v M' 0 0 := by
  obtain ⟨r, hr⟩ := run_of (d := e + 3) hT hc hk
  refine ⟨r, fun hz => ?_⟩
  exact Ev.call0 (fun n => gs_7 rfl rfl (cal_of hM rfl)) hr hz
theorem hol_194 (hM : gNth M 633 = some (.inr (11, vs))) (hT : TM sT sG M) (hc : 0 ≤ c.toInt ∧ c.toInt ≤ 255) : ∃ r : Int32, ∀ {v : Option Value} {M' : Mem}, Ev none (e + 4) 187 244 [some (.ref 633), some (.int x), some (.int c), some (.int t), some (.int n), some (.int k), (some (.int w)), b] [.int r] M v M' 0 0 → Ev none (e + 4) 187 194 [some (.ref 633), some (.int x), some (.int c), some (.int t), some (.int n), some (.int k), (some (.int w)), b] [] M v M' 0 0 := by
  by_cases h0 : (8 : Int32) ≤ w
  · obtain ⟨kk, hk, hz1⟩ : ∃ kk : Int32, (0 ≤ kk.toInt ∧ kk.toInt ≤ 6) ∧ ∀ {v : Option Value} {M' : Mem}, Ev none (e + 4) 187 241 [some (.ref 633), some (.int x), some (.int c), some (.int t), some (.int n), some (.int k), (some (.int w)), b] [.int kk, .int c, .ref 633] M v M' 0 0 → Ev none (e + 4) 187 205 [some (.ref 633), some (.int x), some (.int c), some (.int t), some (.int n), some (.int k), (some (.int w)), b] [] M v M' 0 0 := by
      by_cases h1 : w = 8
      · refine ⟨3, by decide, fun hz => ?_⟩
        refine Ev.step (pc' := if w = 8 then 214 else 218) (ls' := [some (.ref 633), some (.int x), some (.int c), some (.int t), some (.int n), some (.int k), (some (.int w)), b]) (st' := [.int c, .ref 633]) (M1 := M) 5 (fun n => rfl) ?_
        rw [if_pos h1]
        exact Ev.step (pc' := 241) (ls' := [some (.ref 633), some (.int x), some (.int c), some (.int t), some (.int n), some (.int k), (some (.int w)), b]) (st' := [.int 3, .int c, .ref 633]) (M1 := M) 2 (fun n => rfl) hz
      by_cases h2 : w = 9
      · refine ⟨4, by decide, fun hz => ?_⟩
        refine Ev.step (pc' := if w = 8 then 214 else 218) (ls' := [some (.ref 633), some (.int x), some (.int c), some (.int t), some (.int n), some (.int k), (some (.int w)), b]) (st' := [.int c, .ref 633]) (M1 := M) 5 (fun n => rfl) ?_
        rw [if_neg h1]
        refine Ev.step (pc' := if w = 9 then 225 else 229) (ls' := [some (.ref 633), some (.int x), some (.int c), some (.int t), some (.int n), some (.int k), (some (.int w)), b]) (st' := [.int c, .ref 633]) (M1 := M) 3 (fun n => rfl) ?_
        rw [if_pos h2]
        exact Ev.step (pc' := 241) (ls' := [some (.ref 633), some (.int x), some (.int c), some (.int t), some (.int n), some (.int k), (some (.int w)), b]) (st' := [.int 4, .int c, .ref 633]) (M1 := M) 2 (fun n => rfl) hz
      by_cases h3 : w = 10
      · refine ⟨2, by decide, fun hz => ?_⟩
        refine Ev.step (pc' := if w = 8 then 214 else 218) (ls' := [some (.ref 633), some (.int x), some (.int c), some (.int t), some (.int n), some (.int k), (some (.int w)), b]) (st' := [.int c, .ref 633]) (M1 := M) 5 (fun n => rfl) ?_
        rw [if_neg h1]
        refine Ev.step (pc' := if w = 9 then 225 else 229) (ls' := [some (.ref 633), some (.int x), some (.int c), some (.int t), some (.int n), some (.int k), (some (.int w)), b]) (st' := [.int c, .ref 633]) (M1 := M) 3 (fun n => rfl) ?_
        rw [if_neg h2]
        refine Ev.step (pc' := if w = 10 then 236 else 240) (ls' := [some (.ref 633), some (.int x), some (.int c), some (.int t), some (.int n), some (.int k), (some (.int w)), b]) (st' := [.int c, .ref 633]) (M1 := M) 3 (fun n => rfl) ?_
        rw [if_pos h3]
        exact Ev.step (pc' := 241) (ls' := [some (.ref 633), some (.int x), some (.int c), some (.int t), some (.int n), some (.int k), (some (.int w)), b]) (st' := [.int 2, .int c, .ref 633]) (M1 := M) 2 (fun n => rfl) hz
      · refine ⟨5, by decide, fun hz => ?_⟩
        refine Ev.step (pc' := if w = 8 then 214 else 218) (ls' := [some (.ref 633), some (.int x), some (.int c), some (.int t), some (.int n), some (.int k), (some (.int w)), b]) (st' := [.int c, .ref 633]) (M1 := M) 5 (fun n => rfl) ?_
        rw [if_neg h1]
        refine Ev.step (pc' := if w = 9 then 225 else 229) (ls' := [some (.ref 633), some (.int x), some (.int c), some (.int t), some (.int n), some (.int k), (some (.int w)), b]) (st' := [.int c, .ref 633]) (M1 := M) 3 (fun n => rfl) ?_
        rw [if_neg h2]
        refine Ev.step (pc' := if w = 10 then 236 else 240) (ls' := [some (.ref 633), some (.int x), some (.int c), some (.int t), some (.int n), some (.int k), (some (.int w)), b]) (st' := [.int c, .ref 633]) (M1 := M) 3 (fun n => rfl) ?_
        rw [if_neg h3]
        exact Ev.step (pc' := 241) (ls' := [some (.ref 633), some (.int x), some (.int c), some (.int t), some (.int n), some (.int k), (some (.int w)), b]) (st' := [.int 5, .int c, .ref 633]) (M1 := M) 1 (fun n => rfl) hz
    obtain ⟨r, hr⟩ := hol_241 (x := x) (t := t) (n := n) (k := k) (w := w) (b := b) (e := e) hM hT hc hk
    refine ⟨r, fun hz => ?_⟩
    refine Ev.step (pc' := if (8 : Int32) ≤ w then 205 else 201) (ls' := [some (.ref 633), some (.int x), some (.int c), some (.int t), some (.int n), some (.int k), (some (.int w)), b]) (st' := []) (M1 := M) 3 (fun n => rfl) ?_
    rw [if_pos h0]
    exact hz1 (hr hz)
  · refine ⟨0, fun hz => ?_⟩
    refine Ev.step (pc' := if (8 : Int32) ≤ w then 205 else 201) (ls' := [some (.ref 633), some (.int x), some (.int c), some (.int t), some (.int n), some (.int k), (some (.int w)), b]) (st' := []) (M1 := M) 3 (fun n => rfl) ?_
    rw [if_neg h0]
    exact Ev.step (pc' := 244) (ls' := [some (.ref 633), some (.int x), some (.int c), some (.int t), some (.int n), some (.int k), (some (.int w)), b]) (st' := [.int 0]) (M1 := M) 2 (fun n => rfl) hz
theorem hol_244 {u sv nv : Int32} (hM : gNth M 633 = some (.inr (11, vs))) (h33 : gNth vs 33 = some (.ref 649)) (h16 : gNth vs 16 = some (.ref 646)) (h17 : gNth vs 17 = some (.ref 647)) (hsg : gNth M 646 = some (.inl (1, .inl sg))) (hnm : gNth M 647 = some (.inl (1, .inl nm))) (hs : gAt sg k = some sv) (hn : gAt nm k = some nv) (hT : TM sT sG M) (hc : 0 ≤ c.toInt ∧ c.toInt ≤ 255) : ∃ r : Int32, ∀ {v : Option Value} {M' : Mem}, Ev none (e + 4) 187 350 [some (.ref 633), some (.int x), some (.int c), some (.int t), some (.int n), some (.int k), (some (.int w)), (some (.int u))] [.int r, .int n, .ref 649] M v M' 0 0 → Ev none (e + 4) 187 244 [some (.ref 633), some (.int x), some (.int c), some (.int t), some (.int n), some (.int k), (some (.int w)), b] [.int u] M v M' 0 0 := by
  have hd : ∀ {v : Option Value} {M' : Mem}, Ev none (e + 4) 187 (if (8 : Int32) ≤ w then 269 else 259) [some (.ref 633), some (.int x), some (.int c), some (.int t), some (.int n), some (.int k), (some (.int w)), (some (.int u))] [.int n, .ref 649] M v M' 0 0 → Ev none (e + 4) 187 244 [some (.ref 633), some (.int x), some (.int c), some (.int t), some (.int n), some (.int k), (some (.int w)), b] [.int u] M v M' 0 0 := by
    intro v M' hz
    refine Ev.step (pc' := 247) (ls' := [some (.ref 633), some (.int x), some (.int c), some (.int t), some (.int n), some (.int k), (some (.int w)), (some (.int u))]) (st' := [.ref 633]) (M1 := M) 2 (fun n => rfl) ?_
    refine Ev.step 1 (gs_3 rfl rfl (gf_83 hM h33)) ?_
    exact Ev.step (pc' := if (8 : Int32) ≤ w then 269 else 259) (ls' := [some (.ref 633), some (.int x), some (.int c), some (.int t), some (.int n), some (.int k), (some (.int w)), (some (.int u))]) (st' := [.int n, .ref 649]) (M1 := M) 4 (fun n => rfl) hz
  by_cases h0 : (8 : Int32) ≤ w
  · rw [if_pos h0] at hd
    by_cases h1 : sv = 60
    ·
      by_cases h3 : nv ≤ u
      · refine ⟨0, fun hz => hd ?_⟩
        refine Ev.step (pc' := 270) (ls' := [some (.ref 633), some (.int x), some (.int c), some (.int t), some (.int n), some (.int k), (some (.int w)), (some (.int u))]) (st' := [.ref 633, .int n, .ref 649]) (M1 := M) 1 (fun n => rfl) ?_
        refine Ev.step 1 (gs_3 rfl rfl (gf_65 hM h16)) ?_
        refine Ev.step (pc' := 275) (ls' := [some (.ref 633), some (.int x), some (.int c), some (.int t), some (.int n), some (.int k), (some (.int w)), (some (.int u))]) (st' := [.int k, .ref 646, .int n, .ref 649]) (M1 := M) 1 (fun n => rfl) ?_
        refine Ev.step 1 (gs_3 rfl rfl (ia_g hsg hs)) ?_
        refine Ev.step (pc' := if sv = 60 then 281 else 301) (ls' := [some (.ref 633), some (.int x), some (.int c), some (.int t), some (.int n), some (.int k), (some (.int w)), (some (.int u))]) (st' := [.int n, .ref 649]) (M1 := M) 2 (fun n => rfl) ?_
        rw [if_pos h1]
        refine Ev.step (pc' := 284) (ls' := [some (.ref 633), some (.int x), some (.int c), some (.int t), some (.int n), some (.int k), (some (.int w)), (some (.int u))]) (st' := [.ref 633, .int u, .int n, .ref 649]) (M1 := M) 2 (fun n => rfl) ?_
        refine Ev.step 1 (gs_3 rfl rfl (gf_68 hM h17)) ?_
        refine Ev.step (pc' := 289) (ls' := [some (.ref 633), some (.int x), some (.int c), some (.int t), some (.int n), some (.int k), (some (.int w)), (some (.int u))]) (st' := [.int k, .ref 647, .int u, .int n, .ref 649]) (M1 := M) 1 (fun n => rfl) ?_
        refine Ev.step 1 (gs_3 rfl rfl (ia_g hnm hn)) ?_
        refine Ev.step (pc' := if nv ≤ u then 297 else 293) (ls' := [some (.ref 633), some (.int x), some (.int c), some (.int t), some (.int n), some (.int k), (some (.int w)), (some (.int u))]) (st' := [.int n, .ref 649]) (M1 := M) 1 (fun n => rfl) ?_
        rw [if_pos h3]
        exact Ev.step (pc' := 350) (ls' := [some (.ref 633), some (.int x), some (.int c), some (.int t), some (.int n), some (.int k), (some (.int w)), (some (.int u))]) (st' := [.int 0, .int n, .ref 649]) (M1 := M) 2 (fun n => rfl) hz
      · refine ⟨1, fun hz => hd ?_⟩
        refine Ev.step (pc' := 270) (ls' := [some (.ref 633), some (.int x), some (.int c), some (.int t), some (.int n), some (.int k), (some (.int w)), (some (.int u))]) (st' := [.ref 633, .int n, .ref 649]) (M1 := M) 1 (fun n => rfl) ?_
        refine Ev.step 1 (gs_3 rfl rfl (gf_65 hM h16)) ?_
        refine Ev.step (pc' := 275) (ls' := [some (.ref 633), some (.int x), some (.int c), some (.int t), some (.int n), some (.int k), (some (.int w)), (some (.int u))]) (st' := [.int k, .ref 646, .int n, .ref 649]) (M1 := M) 1 (fun n => rfl) ?_
        refine Ev.step 1 (gs_3 rfl rfl (ia_g hsg hs)) ?_
        refine Ev.step (pc' := if sv = 60 then 281 else 301) (ls' := [some (.ref 633), some (.int x), some (.int c), some (.int t), some (.int n), some (.int k), (some (.int w)), (some (.int u))]) (st' := [.int n, .ref 649]) (M1 := M) 2 (fun n => rfl) ?_
        rw [if_pos h1]
        refine Ev.step (pc' := 284) (ls' := [some (.ref 633), some (.int x), some (.int c), some (.int t), some (.int n), some (.int k), (some (.int w)), (some (.int u))]) (st' := [.ref 633, .int u, .int n, .ref 649]) (M1 := M) 2 (fun n => rfl) ?_
        refine Ev.step 1 (gs_3 rfl rfl (gf_68 hM h17)) ?_
        refine Ev.step (pc' := 289) (ls' := [some (.ref 633), some (.int x), some (.int c), some (.int t), some (.int n), some (.int k), (some (.int w)), (some (.int u))]) (st' := [.int k, .ref 647, .int u, .int n, .ref 649]) (M1 := M) 1 (fun n => rfl) ?_
        refine Ev.step 1 (gs_3 rfl rfl (ia_g hnm hn)) ?_
        refine Ev.step (pc' := if nv ≤ u then 297 else 293) (ls' := [some (.ref 633), some (.int x), some (.int c), some (.int t), some (.int n), some (.int k), (some (.int w)), (some (.int u))]) (st' := [.int n, .ref 649]) (M1 := M) 1 (fun n => rfl) ?_
        rw [if_neg h3]
        exact Ev.step (pc' := 350) (ls' := [some (.ref 633), some (.int x), some (.int c), some (.int t), some (.int n), some (.int k), (some (.int w)), (some (.int u))]) (st' := [.int 1, .int n, .ref 649]) (M1 := M) 2 (fun n => rfl) hz
    by_cases h2 : sv = 61
    ·
      by_cases h3 : u = nv
      · refine ⟨1, fun hz => hd ?_⟩
        refine Ev.step (pc' := 270) (ls' := [some (.ref 633), some (.int x), some (.int c), some (.int t), some (.int n), some (.int k), (some (.int w)), (some (.int u))]) (st' := [.ref 633, .int n, .ref 649]) (M1 := M) 1 (fun n => rfl) ?_
        refine Ev.step 1 (gs_3 rfl rfl (gf_65 hM h16)) ?_
        refine Ev.step (pc' := 275) (ls' := [some (.ref 633), some (.int x), some (.int c), some (.int t), some (.int n), some (.int k), (some (.int w)), (some (.int u))]) (st' := [.int k, .ref 646, .int n, .ref 649]) (M1 := M) 1 (fun n => rfl) ?_
        refine Ev.step 1 (gs_3 rfl rfl (ia_g hsg hs)) ?_
        refine Ev.step (pc' := if sv = 60 then 281 else 301) (ls' := [some (.ref 633), some (.int x), some (.int c), some (.int t), some (.int n), some (.int k), (some (.int w)), (some (.int u))]) (st' := [.int n, .ref 649]) (M1 := M) 2 (fun n => rfl) ?_
        rw [if_neg h1]
        refine Ev.step (pc' := 302) (ls' := [some (.ref 633), some (.int x), some (.int c), some (.int t), some (.int n), some (.int k), (some (.int w)), (some (.int u))]) (st' := [.ref 633, .int n, .ref 649]) (M1 := M) 1 (fun n => rfl) ?_
        refine Ev.step 1 (gs_3 rfl rfl (gf_65 hM h16)) ?_
        refine Ev.step (pc' := 307) (ls' := [some (.ref 633), some (.int x), some (.int c), some (.int t), some (.int n), some (.int k), (some (.int w)), (some (.int u))]) (st' := [.int k, .ref 646, .int n, .ref 649]) (M1 := M) 1 (fun n => rfl) ?_
        refine Ev.step 1 (gs_3 rfl rfl (ia_g hsg hs)) ?_
        refine Ev.step (pc' := if sv = 61 then 313 else 333) (ls' := [some (.ref 633), some (.int x), some (.int c), some (.int t), some (.int n), some (.int k), (some (.int w)), (some (.int u))]) (st' := [.int n, .ref 649]) (M1 := M) 2 (fun n => rfl) ?_
        rw [if_pos h2]
        refine Ev.step (pc' := 316) (ls' := [some (.ref 633), some (.int x), some (.int c), some (.int t), some (.int n), some (.int k), (some (.int w)), (some (.int u))]) (st' := [.ref 633, .int u, .int n, .ref 649]) (M1 := M) 2 (fun n => rfl) ?_
        refine Ev.step 1 (gs_3 rfl rfl (gf_68 hM h17)) ?_
        refine Ev.step (pc' := 321) (ls' := [some (.ref 633), some (.int x), some (.int c), some (.int t), some (.int n), some (.int k), (some (.int w)), (some (.int u))]) (st' := [.int k, .ref 647, .int u, .int n, .ref 649]) (M1 := M) 1 (fun n => rfl) ?_
        refine Ev.step 1 (gs_3 rfl rfl (ia_g hnm hn)) ?_
        refine Ev.step (pc' := if u = nv then 325 else 329) (ls' := [some (.ref 633), some (.int x), some (.int c), some (.int t), some (.int n), some (.int k), (some (.int w)), (some (.int u))]) (st' := [.int n, .ref 649]) (M1 := M) 1 (fun n => rfl) ?_
        rw [if_pos h3]
        exact Ev.step (pc' := 350) (ls' := [some (.ref 633), some (.int x), some (.int c), some (.int t), some (.int n), some (.int k), (some (.int w)), (some (.int u))]) (st' := [.int 1, .int n, .ref 649]) (M1 := M) 2 (fun n => rfl) hz
      · refine ⟨0, fun hz => hd ?_⟩
        refine Ev.step (pc' := 270) (ls' := [some (.ref 633), some (.int x), some (.int c), some (.int t), some (.int n), some (.int k), (some (.int w)), (some (.int u))]) (st' := [.ref 633, .int n, .ref 649]) (M1 := M) 1 (fun n => rfl) ?_
        refine Ev.step 1 (gs_3 rfl rfl (gf_65 hM h16)) ?_
        refine Ev.step (pc' := 275) (ls' := [some (.ref 633), some (.int x), some (.int c), some (.int t), some (.int n), some (.int k), (some (.int w)), (some (.int u))]) (st' := [.int k, .ref 646, .int n, .ref 649]) (M1 := M) 1 (fun n => rfl) ?_
        refine Ev.step 1 (gs_3 rfl rfl (ia_g hsg hs)) ?_
        refine Ev.step (pc' := if sv = 60 then 281 else 301) (ls' := [some (.ref 633), some (.int x), some (.int c), some (.int t), some (.int n), some (.int k), (some (.int w)), (some (.int u))]) (st' := [.int n, .ref 649]) (M1 := M) 2 (fun n => rfl) ?_
        rw [if_neg h1]
        refine Ev.step (pc' := 302) (ls' := [some (.ref 633), some (.int x), some (.int c), some (.int t), some (.int n), some (.int k), (some (.int w)), (some (.int u))]) (st' := [.ref 633, .int n, .ref 649]) (M1 := M) 1 (fun n => rfl) ?_
        refine Ev.step 1 (gs_3 rfl rfl (gf_65 hM h16)) ?_
        refine Ev.step (pc' := 307) (ls' := [some (.ref 633), some (.int x), some (.int c), some (.int t), some (.int n), some (.int k), (some (.int w)), (some (.int u))]) (st' := [.int k, .ref 646, .int n, .ref 649]) (M1 := M) 1 (fun n => rfl) ?_
        refine Ev.step 1 (gs_3 rfl rfl (ia_g hsg hs)) ?_
        refine Ev.step (pc' := if sv = 61 then 313 else 333) (ls' := [some (.ref 633), some (.int x), some (.int c), some (.int t), some (.int n), some (.int k), (some (.int w)), (some (.int u))]) (st' := [.int n, .ref 649]) (M1 := M) 2 (fun n => rfl) ?_
        rw [if_pos h2]
        refine Ev.step (pc' := 316) (ls' := [some (.ref 633), some (.int x), some (.int c), some (.int t), some (.int n), some (.int k), (some (.int w)), (some (.int u))]) (st' := [.ref 633, .int u, .int n, .ref 649]) (M1 := M) 2 (fun n => rfl) ?_
        refine Ev.step 1 (gs_3 rfl rfl (gf_68 hM h17)) ?_
        refine Ev.step (pc' := 321) (ls' := [some (.ref 633), some (.int x), some (.int c), some (.int t), some (.int n), some (.int k), (some (.int w)), (some (.int u))]) (st' := [.int k, .ref 647, .int u, .int n, .ref 649]) (M1 := M) 1 (fun n => rfl) ?_
        refine Ev.step 1 (gs_3 rfl rfl (ia_g hnm hn)) ?_
        refine Ev.step (pc' := if u = nv then 325 else 329) (ls' := [some (.ref 633), some (.int x), some (.int c), some (.int t), some (.int n), some (.int k), (some (.int w)), (some (.int u))]) (st' := [.int n, .ref 649]) (M1 := M) 1 (fun n => rfl) ?_
        rw [if_neg h3]
        exact Ev.step (pc' := 350) (ls' := [some (.ref 633), some (.int x), some (.int c), some (.int t), some (.int n), some (.int k), (some (.int w)), (some (.int u))]) (st' := [.int 0, .int n, .ref 649]) (M1 := M) 2 (fun n => rfl) hz
    by_cases h3 : u ≤ nv
    · refine ⟨0, fun hz => hd ?_⟩
      refine Ev.step (pc' := 270) (ls' := [some (.ref 633), some (.int x), some (.int c), some (.int t), some (.int n), some (.int k), (some (.int w)), (some (.int u))]) (st' := [.ref 633, .int n, .ref 649]) (M1 := M) 1 (fun n => rfl) ?_
      refine Ev.step 1 (gs_3 rfl rfl (gf_65 hM h16)) ?_
      refine Ev.step (pc' := 275) (ls' := [some (.ref 633), some (.int x), some (.int c), some (.int t), some (.int n), some (.int k), (some (.int w)), (some (.int u))]) (st' := [.int k, .ref 646, .int n, .ref 649]) (M1 := M) 1 (fun n => rfl) ?_
      refine Ev.step 1 (gs_3 rfl rfl (ia_g hsg hs)) ?_
      refine Ev.step (pc' := if sv = 60 then 281 else 301) (ls' := [some (.ref 633), some (.int x), some (.int c), some (.int t), some (.int n), some (.int k), (some (.int w)), (some (.int u))]) (st' := [.int n, .ref 649]) (M1 := M) 2 (fun n => rfl) ?_
      rw [if_neg h1]
      refine Ev.step (pc' := 302) (ls' := [some (.ref 633), some (.int x), some (.int c), some (.int t), some (.int n), some (.int k), (some (.int w)), (some (.int u))]) (st' := [.ref 633, .int n, .ref 649]) (M1 := M) 1 (fun n => rfl) ?_
      refine Ev.step 1 (gs_3 rfl rfl (gf_65 hM h16)) ?_
      refine Ev.step (pc' := 307) (ls' := [some (.ref 633), some (.int x), some (.int c), some (.int t), some (.int n), some (.int k), (some (.int w)), (some (.int u))]) (st' := [.int k, .ref 646, .int n, .ref 649]) (M1 := M) 1 (fun n => rfl) ?_
      refine Ev.step 1 (gs_3 rfl rfl (ia_g hsg hs)) ?_
      refine Ev.step (pc' := if sv = 61 then 313 else 333) (ls' := [some (.ref 633), some (.int x), some (.int c), some (.int t), some (.int n), some (.int k), (some (.int w)), (some (.int u))]) (st' := [.int n, .ref 649]) (M1 := M) 2 (fun n => rfl) ?_
      rw [if_neg h2]
      refine Ev.step (pc' := 336) (ls' := [some (.ref 633), some (.int x), some (.int c), some (.int t), some (.int n), some (.int k), (some (.int w)), (some (.int u))]) (st' := [.ref 633, .int u, .int n, .ref 649]) (M1 := M) 2 (fun n => rfl) ?_
      refine Ev.step 1 (gs_3 rfl rfl (gf_68 hM h17)) ?_
      refine Ev.step (pc' := 341) (ls' := [some (.ref 633), some (.int x), some (.int c), some (.int t), some (.int n), some (.int k), (some (.int w)), (some (.int u))]) (st' := [.int k, .ref 647, .int u, .int n, .ref 649]) (M1 := M) 1 (fun n => rfl) ?_
      refine Ev.step 1 (gs_3 rfl rfl (ia_g hnm hn)) ?_
      refine Ev.step (pc' := if u ≤ nv then 349 else 345) (ls' := [some (.ref 633), some (.int x), some (.int c), some (.int t), some (.int n), some (.int k), (some (.int w)), (some (.int u))]) (st' := [.int n, .ref 649]) (M1 := M) 1 (fun n => rfl) ?_
      rw [if_pos h3]
      exact Ev.step (pc' := 350) (ls' := [some (.ref 633), some (.int x), some (.int c), some (.int t), some (.int n), some (.int k), (some (.int w)), (some (.int u))]) (st' := [.int 0, .int n, .ref 649]) (M1 := M) 1 (fun n => rfl) hz
    · refine ⟨1, fun hz => hd ?_⟩
      refine Ev.step (pc' := 270) (ls' := [some (.ref 633), some (.int x), some (.int c), some (.int t), some (.int n), some (.int k), (some (.int w)), (some (.int u))]) (st' := [.ref 633, .int n, .ref 649]) (M1 := M) 1 (fun n => rfl) ?_
      refine Ev.step 1 (gs_3 rfl rfl (gf_65 hM h16)) ?_
      refine Ev.step (pc' := 275) (ls' := [some (.ref 633), some (.int x), some (.int c), some (.int t), some (.int n), some (.int k), (some (.int w)), (some (.int u))]) (st' := [.int k, .ref 646, .int n, .ref 649]) (M1 := M) 1 (fun n => rfl) ?_
      refine Ev.step 1 (gs_3 rfl rfl (ia_g hsg hs)) ?_
      refine Ev.step (pc' := if sv = 60 then 281 else 301) (ls' := [some (.ref 633), some (.int x), some (.int c), some (.int t), some (.int n), some (.int k), (some (.int w)), (some (.int u))]) (st' := [.int n, .ref 649]) (M1 := M) 2 (fun n => rfl) ?_
      rw [if_neg h1]
      refine Ev.step (pc' := 302) (ls' := [some (.ref 633), some (.int x), some (.int c), some (.int t), some (.int n), some (.int k), (some (.int w)), (some (.int u))]) (st' := [.ref 633, .int n, .ref 649]) (M1 := M) 1 (fun n => rfl) ?_
      refine Ev.step 1 (gs_3 rfl rfl (gf_65 hM h16)) ?_
      refine Ev.step (pc' := 307) (ls' := [some (.ref 633), some (.int x), some (.int c), some (.int t), some (.int n), some (.int k), (some (.int w)), (some (.int u))]) (st' := [.int k, .ref 646, .int n, .ref 649]) (M1 := M) 1 (fun n => rfl) ?_
      refine Ev.step 1 (gs_3 rfl rfl (ia_g hsg hs)) ?_
      refine Ev.step (pc' := if sv = 61 then 313 else 333) (ls' := [some (.ref 633), some (.int x), some (.int c), some (.int t), some (.int n), some (.int k), (some (.int w)), (some (.int u))]) (st' := [.int n, .ref 649]) (M1 := M) 2 (fun n => rfl) ?_
      rw [if_neg h2]
      refine Ev.step (pc' := 336) (ls' := [some (.ref 633), some (.int x), some (.int c), some (.int t), some (.int n), some (.int k), (some (.int w)), (some (.int u))]) (st' := [.ref 633, .int u, .int n, .ref 649]) (M1 := M) 2 (fun n => rfl) ?_
      refine Ev.step 1 (gs_3 rfl rfl (gf_68 hM h17)) ?_
      refine Ev.step (pc' := 341) (ls' := [some (.ref 633), some (.int x), some (.int c), some (.int t), some (.int n), some (.int k), (some (.int w)), (some (.int u))]) (st' := [.int k, .ref 647, .int u, .int n, .ref 649]) (M1 := M) 1 (fun n => rfl) ?_
      refine Ev.step 1 (gs_3 rfl rfl (ia_g hnm hn)) ?_
      refine Ev.step (pc' := if u ≤ nv then 349 else 345) (ls' := [some (.ref 633), some (.int x), some (.int c), some (.int t), some (.int n), some (.int k), (some (.int w)), (some (.int u))]) (st' := [.int n, .ref 649]) (M1 := M) 1 (fun n => rfl) ?_
      rw [if_neg h3]
      exact Ev.step (pc' := 350) (ls' := [some (.ref 633), some (.int x), some (.int c), some (.int t), some (.int n), some (.int k), (some (.int w)), (some (.int u))]) (st' := [.int 1, .int n, .ref 649]) (M1 := M) 2 (fun n => rfl) hz
  · rw [if_neg h0] at hd
    obtain ⟨r, hr⟩ := run_is (d := e) (kk := w) hT hc
    refine ⟨r, fun hz => hd ?_⟩
    refine Ev.step (pc' := 263) (ls' := [some (.ref 633), some (.int x), some (.int c), some (.int t), some (.int n), some (.int k), (some (.int w)), (some (.int u))]) (st' := [.int w, .int c, .ref 633, .int n, .ref 649]) (M1 := M) 3 (fun n => rfl) ?_
    refine Ev.call0 (fun n => gs_7 rfl rfl (cal_is hM rfl)) hr ?_
    exact Ev.step (pc' := 350) (ls' := [some (.ref 633), some (.int x), some (.int c), some (.int t), some (.int n), some (.int k), (some (.int w)), (some (.int u))]) (st' := [.int r, .int n, .ref 649]) (M1 := M) 1 (fun n => rfl) hz
end HOL3
/-! BY HAND: the reference's holds, put together -/
theorem at_nn {α : Type} {l : List α} {j : Int32} {kn : Nat} (h : j.toInt = (kn : Int)) : gAt l j = gNth l kn := by
  obtain ⟨h1, h2⟩ := clp_of (x := j) (a := 0) (b := j.toInt) ⟨by omega, Int.le_refl _⟩ (Int.le_refl _)
  have h3 : j.toNatClampNeg = kn := by omega
  unfold gAt
  rw [h1, h3]
  rfl
theorem i32_p1 {n : Int32} (h : n.toInt ≤ 2147483646) : (n + 1).toInt = n.toInt + 1 := by
  have o : (1 : Int32).toInt = 1 := rfl
  have := i32_lt n
  rw [i32_add (by omega) (by omega), o]
theorem i32_m1 {n : Int32} (h : -2147483647 ≤ n.toInt) : (n - 1).toInt = n.toInt - 1 := by
  have o : (1 : Int32).toInt = 1 := rfl
  have := i32_lt n
  rw [i32_sub (by omega) (by omega), o]
theorem i32_a1 {n : Int32} (h : -2147483647 ≤ n.toInt) : (n + -1).toInt = n.toInt - 1 := by
  have o : (-1 : Int32).toInt = -1 := rfl
  have := i32_lt n
  rw [i32_add (by omega) (by omega), o]
  rfl
set_option maxRecDepth 100000 in
theorem sT_649 : gNth sT 649 = some 77 := by decide +kernel
set_option maxRecDepth 100000 in
theorem sT_646 : gNth sT 646 = some 74 := by decide +kernel
set_option maxRecDepth 100000 in
theorem sT_647 : gNth sT 647 = some 75 := by decide +kernel
set_option maxRecDepth 100000 in
theorem rw_77 : rwB 77 3 60 0 1 = true := by decide +kernel
set_option maxRecDepth 100000 in
theorem rw_74 : rwB 74 1 1600 (-2147483648) 2147483647 = true := by decide +kernel
set_option maxRecDepth 100000 in
theorem rw_75 : rwB 75 1 1600 (-2147483648) 2147483647 = true := by decide +kernel
set_option maxRecDepth 100000 in
theorem rw_71 : rwB 71 1 128 0 200 = true := by decide +kernel
set_option maxRecDepth 100000 in
theorem rw_72 : rwB 72 1 128 0 200 = true := by decide +kernel
set_option maxRecDepth 100000 in
theorem mf_h : (mfB 13 71 && mfB 14 72 && mfB 15 73 && mfB 16 74 && mfB 17 75 && mfB 33 77) = true := by decide +kernel
set_option maxRecDepth 100000 in
theorem sU_h : gNth sU 71 = some (some 643) ∧ gNth sU 72 = some (some 644) ∧ gNth sU 73 = some (some 645) ∧ gNth sU 74 = some (some 646) ∧ gNth sU 75 = some (some 647) ∧ gNth sU 77 = some (some 649) := by refine ⟨?_, ?_, ?_, ?_, ?_, ?_⟩ <;> decide +kernel
theorem TM.hol {M : Mem} (hT : TM sT sG M) : ∃ vs tr sg nm, gNth M 633 = some (.inr (11, vs)) ∧ gNth vs 13 = some (.ref 643) ∧ gNth vs 14 = some (.ref 644) ∧ gNth vs 15 = some (.ref 645) ∧ gNth vs 16 = some (.ref 646) ∧ gNth vs 17 = some (.ref 647) ∧ gNth vs 33 = some (.ref 649) ∧ gNth M 649 = some (.inl (3, .inl tr)) ∧ tr.length = 60 ∧ (∀ j x, gNth tr j = some x → 0 ≤ x.toInt ∧ x.toInt ≤ 1) ∧ gNth M 646 = some (.inl (1, .inl sg)) ∧ sg.length = 1600 ∧ gNth M 647 = some (.inl (1, .inl nm)) ∧ nm.length = 1600 := by
  obtain ⟨vs, hM, hv⟩ := hT.mfld
  obtain ⟨h, a6⟩ := and_t mf_h
  obtain ⟨h, a5⟩ := and_t h
  obtain ⟨h, a4⟩ := and_t h
  obtain ⟨h, a3⟩ := and_t h
  obtain ⟨a1, a2⟩ := and_t h
  obtain ⟨u1, u2, u3, u4, u5, u6⟩ := sU_h
  obtain ⟨tr, t1, t2, t3⟩ := hT.mrow sT_649 rw_77
  obtain ⟨sg, s1, s2, _⟩ := hT.mrow sT_646 rw_74
  obtain ⟨nm, n1, n2, _⟩ := hT.mrow sT_647 rw_75
  exact ⟨vs, tr, sg, nm, hM, hv _ _ _ a1 u1, hv _ _ _ a2 u2, hv _ _ _ a3 u3, hv _ _ _ a4 u4, hv _ _ _ a5 u5, hv _ _ _ a6 u6, t1, t2, t3, s1, s2, n1, n2⟩
set_option maxRecDepth 100000 in
theorem hol_put {M : Mem} {tr : List Int32} (hT : TM sT sG M) (htr : gNth M 649 = some (.inl (3, .inl tr))) (tl : tr.length = 60) (tx : ∀ j x, gNth tr j = some x → 0 ≤ x.toInt ∧ x.toInt ≤ 1) (z : Int32) (j : Nat) : TM sT sG (gPut M 649 (.inl (3, .inl (gPut tr j (vp_nar .boolean z))))) ∧ Frm sT [(1077, 0)] M (gPut M 649 (.inl (3, .inl (gPut tr j (vp_nar .boolean z))))) ∧ gNth (gPut M 649 (.inl (3, .inl (gPut tr j (vp_nar .boolean z))))) 644 = gNth M 644 ∧ gNth (gPut M 649 (.inl (3, .inl (gPut tr j (vp_nar .boolean z))))) 645 = gNth M 645 := by
  refine ⟨hT.putrow (n := 60) (lo := 0) (hi := 1) sT_649 (by decide +kernel) (by rw [put_len]; exact tl) (fun i y hy => ?_), Frm.row htr sT_649 (List.mem_singleton.mpr rfl), ?_, ?_⟩
  · rw [nth_put] at hy
    split at hy
    · cases hy
      exact nar_z z
    · exact tx i y hy
  · rw [nth_put, if_neg (fun q => absurd q.1 (by decide))]
  · rw [nth_put, if_neg (fun q => absurd q.1 (by decide))]
theorem hol_loop {e : Nat} {x c t tt : Int32} {lt ls : List Int32} (hc : 0 ≤ c.toInt ∧ c.toInt ≤ 255) (htt : gAt lt x = some tt) (hE : (200 * t + tt).toInt ≤ 1600) : ∀ (m kn : Nat) (M : Mem) (n k : Int32) (a b : Option Value), TM sT sG M → gNth M 644 = some (.inl (1, .inl lt)) → gNth M 645 = some (.inl (1, .inl ls)) → k.toInt = (kn : Int) → k.toInt + (m : Int) = (200 * t + tt).toInt → 0 ≤ n.toInt → n.toInt ≤ 60 → okS m ls kn n.toInt → ∃ (r : Int32) (M' : Mem), Ev none (e + 4) 187 39 [some (.ref 633), some (.int x), some (.int c), some (.int t), some (.int n), some (.int k), a, b] [] M (some (.int r)) M' 0 0 ∧ TM sT sG M' ∧ Frm sT [(1077, 0)] M M' ∧ 0 ≤ r.toInt ∧ r.toInt ≤ 1 := by
  intro m
  induction m with
  | zero =>
    intro kn M n k a b hT hto hst hk hm hn0 hn1 hok
    obtain ⟨vs, tr, sg, nm, hM, h13, h14, h15, h16, h17, h33, htr, tl, tx, _, _, _, _⟩ := hT.hol
    obtain ⟨y, hy, hy2, _⟩ := at_of (x := 0) tl (by decide) (by decide)
    obtain ⟨y0, y1⟩ := tx _ _ hy2
    refine ⟨y, M, hol_39 hM h14 hto htt ?_, hT, Frm.refl M, y0, y1⟩
    rw [if_pos (by rw [Int32.le_iff_toInt_le]; omega)]
    refine hol_360 hM h33 htr hy ?_
    rcases Int.lt_or_le 0 y.toInt with h | h
    · exact Or.inr (Int32.toInt_inj.mp (show y.toInt = 1 by omega))
    · exact Or.inl (Int32.toInt_inj.mp (show y.toInt = 0 by omega))
  | succ m ih =>
    intro kn M n k a b hT hto hst hk hm hn0 hn1 hok
    obtain ⟨vs, tr, sg, nm, hM, h13, h14, h15, h16, h17, h33, htr, tl, tx, hsg, sl, hnm, nl⟩ := hT.hol
    obtain ⟨w, hw, hcs⟩ := hok
    have hwk : gAt ls k = some w := by rw [at_nn hk]; exact hw
    have hm : k.toInt + ((m : Int) + 1) = (200 * t + tt).toInt := hm
    have e1 : (k + 1).toInt = k.toInt + 1 := i32_p1 (by omega)
    have hk1 : (k + 1).toInt = ((kn + 1 : Nat) : Int) := by omega
    have hm1 : (k + 1).toInt + (m : Int) = (200 * t + tt).toInt := by omega
    have hle : ¬ 200 * t + tt ≤ k := by rw [Int32.le_iff_toInt_le]; omega
    rcases hcs with ⟨rfl, g1, hok⟩ | ⟨g0, g1, g2, hok⟩ | ⟨g0, g1, g2, g3, hok⟩
    · obtain ⟨n1, en⟩ : ∃ n1, n1 = n - 1 := ⟨_, rfl⟩
      have e2 : n1.toInt = n.toInt - 1 := by rw [en]; exact i32_m1 (by omega)
      obtain ⟨y, hy, _⟩ := at_of (x := n1) tl (by omega) (by omega)
      obtain ⟨p1, p2, p3, p4⟩ := hol_put hT htr tl tx (if y = 0 then 1 else 0) n1.toNatClampNeg
      obtain ⟨r, M', q1, q2, q3, q4⟩ := ih (kn + 1) _ n (k + 1) (some (.int 20)) b p1 (p3.trans hto) (p4.trans hst) hk1 hm1 hn0 hn1 hok
      refine ⟨r, M', hol_39 hM h14 hto htt ?_, q2, p2.trans q3, q4⟩
      rw [if_neg hle]
      refine hol_56 hM h15 hst hwk ?_
      rw [if_pos rfl]
      rw [en] at hy q1
      exact hol_72 hM h33 htr hy (hol_s97 htr hy (hol_354 q1))
    · obtain ⟨n1, en⟩ : ∃ n1, n1 = n + -1 := ⟨_, rfl⟩
      have e2 : n1.toInt = n.toInt - 1 := by rw [en]; exact i32_a1 (by omega)
      obtain ⟨n2, en2⟩ : ∃ n2, n2 = n1 - 1 := ⟨_, rfl⟩
      have e3 : n2.toInt = n1.toInt - 1 := by rw [en2]; exact i32_m1 (by omega)
      obtain ⟨y, hy, _⟩ := at_of (x := n2) tl (by omega) (by omega)
      obtain ⟨y2, hy2, _⟩ := at_of (x := n1) tl (by omega) (by omega)
      have hok1 : okS m ls (kn + 1) n1.toInt := by rw [e2]; exact hok
      by_cases h21 : w = 21
      · obtain ⟨p1, p2, p3, p4⟩ := hol_put hT htr tl tx (if y = 0 then 0 else if y2 = 0 then 0 else 1) n2.toNatClampNeg
        obtain ⟨r, M', q1, q2, q3, q4⟩ := ih (kn + 1) _ n1 (k + 1) (some (.int w)) b p1 (p3.trans hto) (p4.trans hst) hk1 hm1 (by omega) (by omega) hok1
        refine ⟨r, M', hol_39 hM h14 hto htt ?_, q2, p2.trans q3, q4⟩
        rw [if_neg hle]
        refine hol_56 hM h15 hst hwk ?_
        rw [if_neg g0]
        refine hol_101 g1 (fun _ => hol_115 hM h33 htr ?_)
        rw [if_pos h21, ← en]
        rw [en2] at hy q1
        exact hol_133 hM h33 htr hy hy2 (hol_s190 htr hy (hol_354 q1))
      · obtain ⟨p1, p2, p3, p4⟩ := hol_put hT htr tl tx (if y = 0 then if y2 = 0 then 0 else 1 else 1) n2.toNatClampNeg
        obtain ⟨r, M', q1, q2, q3, q4⟩ := ih (kn + 1) _ n1 (k + 1) (some (.int w)) b p1 (p3.trans hto) (p4.trans hst) hk1 hm1 (by omega) (by omega) hok1
        refine ⟨r, M', hol_39 hM h14 hto htt ?_, q2, p2.trans q3, q4⟩
        rw [if_neg hle]
        refine hol_56 hM h15 hst hwk ?_
        rw [if_neg g0]
        refine hol_101 g1 (fun _ => hol_115 hM h33 htr ?_)
        rw [if_neg h21, ← en]
        rw [en2] at hy q1
        exact hol_163 hM h33 htr hy hy2 (hol_s190 htr hy (hol_354 q1))
    · obtain ⟨n1, en⟩ : ∃ n1, n1 = n + 1 := ⟨_, rfl⟩
      have e2 : n1.toInt = n.toInt + 1 := by rw [en]; exact i32_p1 (by omega)
      obtain ⟨y, hy, _⟩ := at_of (x := n) tl (by omega) (by omega)
      obtain ⟨sv, hsv, _⟩ := at_of (x := k) sl (by omega) (by omega)
      obtain ⟨nv, hnv, _⟩ := at_of (x := k) nl (by omega) (by omega)
      obtain ⟨r1, f1⟩ := hol_194 (x := x) (t := t) (n := n) (k := k) (w := w) (b := b) (e := e) hM hT hc
      obtain ⟨r2, f2⟩ := hol_244 (x := x) (t := t) (n := n) (k := k) (w := w) (b := b) (e := e) (u := r1) hM h33 h16 h17 hsg hnm hsv hnv hT hc
      obtain ⟨p1, p2, p3, p4⟩ := hol_put hT htr tl tx r2 n.toNatClampNeg
      obtain ⟨r, M', q1, q2, q3, q4⟩ := ih (kn + 1) _ n1 (k + 1) (some (.int w)) (some (.int r1)) p1 (p3.trans hto) (p4.trans hst) hk1 hm1 (by omega) (by omega) (by rw [e2]; exact hok)
      refine ⟨r, M', hol_39 hM h14 hto htt ?_, q2, p2.trans q3, q4⟩
      rw [if_neg hle]
      refine hol_56 hM h15 hst hwk ?_
      rw [if_neg g0]
      rw [en] at q1
      exact hol_101e g1 g2 (f1 (f2 (hol_s350 htr hy (hol_354 q1))))
/-! BY HAND: the contract of the reference's holds -/
def kX11_holds : CN := (187, 4, [.inr 1900, .inl (.ofNat 0, .ofNat 127), .inl (.ofNat 0, .ofNat 255)], [], [(22, [([(2, .ofNat 1)], .ofNat 0)])], [(1077, 0)], [(some (.inl (.ofNat 0, .ofNat 1)), [], [], [], [])])
set_option maxRecDepth 100000 in
theorem mR_187 : (gNth mRs 187).map (fun q => q.2.2.2.1) = some 8 := by decide +kernel
section HOL4
variable {M : Mem} {vs : List Value} {x c f tt : Int32} {e : Nat} {v : Option Value} {M' : Mem} {lf lt : List Int32}
theorem hol_0 (hM : gNth M 633 = some (.inr (11, vs))) (h13 : gNth vs 13 = some (.ref 643)) (h14 : gNth vs 14 = some (.ref 644)) (hf : gNth M 643 = some (.inl (1, .inl lf))) (ht : gNth M 644 = some (.inl (1, .inl lt))) (hff : gAt lf x = some f) (htt : gAt lt x = some tt) (hz : Ev none (e + 4) 187 (if f = tt then 20 else 22) [some (.ref 633), some (.int x), some (.int c), some (.int (x / 16)), none, none, none, none] [] M v M' 0 0) : Ev none (e + 4) 187 0 [some (.ref 633), some (.int x), some (.int c), none, none, none, none, none] [] M v M' 0 0 := by
  refine Ev.step (pc' := 6) (ls' := [some (.ref 633), some (.int x), some (.int c), some (.int (x / 16)), none, none, none, none]) (st' := [.ref 633]) (M1 := M) 5 (fun n => rfl) ?_
  refine Ev.step 1 (gs_3 rfl rfl (gf_56 hM h13)) ?_
  refine Ev.step (pc' := 10) (ls' := [some (.ref 633), some (.int x), some (.int c), some (.int (x / 16)), none, none, none, none]) (st' := [.int x, .ref 643]) (M1 := M) 1 (fun n => rfl) ?_
  refine Ev.step 1 (gs_3 rfl rfl (ia_g hf hff)) ?_
  refine Ev.step (pc' := 12) (ls' := [some (.ref 633), some (.int x), some (.int c), some (.int (x / 16)), none, none, none, none]) (st' := [.ref 633, .int f]) (M1 := M) 1 (fun n => rfl) ?_
  refine Ev.step 1 (gs_3 rfl rfl (gf_59 hM h14)) ?_
  refine Ev.step (pc' := 16) (ls' := [some (.ref 633), some (.int x), some (.int c), some (.int (x / 16)), none, none, none, none]) (st' := [.int x, .ref 644, .int f]) (M1 := M) 1 (fun n => rfl) ?_
  refine Ev.step 1 (gs_3 rfl rfl (ia_g ht htt)) ?_
  exact Ev.step (pc' := if f = tt then 20 else 22) (ls' := [some (.ref 633), some (.int x), some (.int c), some (.int (x / 16)), none, none, none, none]) (st' := []) (M1 := M) 1 (fun n => rfl) hz
theorem hol_20 : Ev none (e + 4) 187 20 [some (.ref 633), some (.int x), some (.int c), some (.int (x / 16)), none, none, none, none] [] M (some (.int 1)) M 0 0 := by
  refine Ev.step (pc' := 21) (ls' := [some (.ref 633), some (.int x), some (.int c), some (.int (x / 16)), none, none, none, none]) (st' := [.int 1]) (M1 := M) 1 (fun n => rfl) ?_
  exact Ev.ret (fun n => rfl)
theorem hol_22 (hM : gNth M 633 = some (.inr (11, vs))) (h13 : gNth vs 13 = some (.ref 643)) (hf : gNth M 643 = some (.inl (1, .inl lf))) (hff : gAt lf x = some f) (hz : Ev none (e + 4) 187 39 [some (.ref 633), some (.int x), some (.int c), some (.int (x / 16)), some (.int 0), some (.int (200 * (x / 16) + f)), none, none] [] M v M' 0 0) : Ev none (e + 4) 187 22 [some (.ref 633), some (.int x), some (.int c), some (.int (x / 16)), none, none, none, none] [] M v M' 0 0 := by
  refine Ev.step (pc' := 31) (ls' := [some (.ref 633), some (.int x), some (.int c), some (.int (x / 16)), some (.int 0), none, none, none]) (st' := [.ref 633, .int (200 * (x / 16))]) (M1 := M) 6 (fun n => rfl) ?_
  refine Ev.step 1 (gs_3 rfl rfl (gf_56 hM h13)) ?_
  refine Ev.step (pc' := 35) (ls' := [some (.ref 633), some (.int x), some (.int c), some (.int (x / 16)), some (.int 0), none, none, none]) (st' := [.int x, .ref 643, .int (200 * (x / 16))]) (M1 := M) 1 (fun n => rfl) ?_
  refine Ev.step 1 (gs_3 rfl rfl (ia_g hf hff)) ?_
  exact Ev.step (pc' := 39) (ls' := [some (.ref 633), some (.int x), some (.int c), some (.int (x / 16)), some (.int 0), some (.int (200 * (x / 16) + f)), none, none]) (st' := []) (M1 := M) 2 (fun n => rfl) hz
end HOL4
theorem kX11_holds_ok : cnOK sT sG FL0 kX11_holds := by
  intro d M ws q hd hq ha hp hT
  have hm := mR_187
  have hq' : gNth mRs 187 = some q := hq
  rw [hq'] at hm
  have hm : q.2.2.2.1 = 8 := Option.some.inj hm
  obtain ⟨e, rfl⟩ : ∃ e, d = e + 4 := ⟨d - 4, by have : 4 ≤ d := hd; omega⟩
  rcases ws with _ | ⟨a, _ | ⟨b, _ | ⟨b2, _ | ⟨b3, r⟩⟩⟩⟩
  · exact ha.elim
  · exact ha.2.elim
  · exact ha.2.2.elim
  · obtain ⟨k1, ⟨x, rfl, x1, x2⟩, ⟨c, rfl, c1, c2⟩, _⟩ := ha
    have k1 : a = .ref 633 := k1
    subst k1
    have x1 : 0 ≤ x.toInt := x1
    have x2 : x.toInt ≤ 127 := x2
    obtain ⟨hv, hv0, hfl⟩ := hp
    have hv0 : hv = [] := by
      cases hv with
      | nil => rfl
      | cons _ _ => exact hv0.elim
    subst hv0
    obtain ⟨ys, hy, hF⟩ := hfl _ (List.mem_cons_self ..)
    rcases ys with _ | ⟨y, _ | ⟨y2, ys⟩⟩
    · exact hy.elim
    rotate_left
    · exact hy.2.elim
    obtain ⟨⟨z, hz1, hz2⟩, _⟩ := hy
    have hz1 : some (1 * x.toInt + 0) = some z := hz1
    have hz2 : y = z + 0 := hz2
    have hyx : y = x.toInt := by
      have := Option.some.inj hz1
      omega
    subst hyx
    have hF : FL0 22 [x.toInt] M := hF
    have hL : lnP [x.toInt] M := fl0_22 hF
    obtain ⟨x', f, tt, lf, lt, ls, w1, w2, w3, w4, w5, w6, w7⟩ := hL
    cases Int32.toInt_inj.mp (List.cons.inj w1).1
    obtain ⟨vs, tr, sg, nm, hM, h13, h14, h15, h16, h17, h33, htr, tl, tx, hsg, sl, hnm, nl⟩ := hT.hol
    obtain ⟨lf2, r1, r2, r3⟩ := hT.mrow sT_643 rw_71
    obtain ⟨lt2, s1, s2, s3⟩ := hT.mrow sT_644 rw_72
    rw [w2] at r1
    cases r1
    rw [w3] at s1
    cases s1
    have f2 := r3 _ _ (at_ok w5).2
    have t2 := s3 _ _ (at_ok w6).2
    rw [hm]
    by_cases h0 : f = tt
    · refine ⟨some (.int 1), M, ?_, hT, Frm.refl M, _, List.mem_cons_self .., ⟨⟨1, rfl, by decide, by decide⟩, fun q hq => (by cases hq), [], trivial, fun q hq => (by cases hq), fun q hq => (by cases hq)⟩, fun h => absurd (show (187 : Nat) = 205 from h) (by decide)⟩
      refine hol_0 hM h13 h14 w2 w3 w5 w6 ?_
      rw [if_pos h0]
      exact hol_20
    · obtain ⟨m, k, g1, g2, g3⟩ := w7.resolve_left h0
      have o16 : (16 : Int32).toInt = 16 := rfl
      have o200 : (200 : Int32).toInt = 200 := rfl
      obtain ⟨t, et⟩ : ∃ t, t = x / 16 := ⟨_, rfl⟩
      have d1 : t.toInt = x.toInt / 16 := by
        rw [et, i32_div (by rw [o16]; decide), o16]
        exact Int.tdiv_eq_ediv_of_nonneg x1
      rw [← et] at g2
      have d2 : (200 * t).toInt = 200 * t.toInt := by
        rw [i32_mul (by rw [o200]; omega) (by rw [o200]; omega), o200]
      have d3 : (200 * t + tt).toInt = 200 * t.toInt + tt.toInt := by
        rw [i32_add (by omega) (by omega), d2]
      have d4 : (200 * t + f).toInt = 200 * t.toInt + f.toInt := by
        rw [i32_add (by omega) (by omega), d2]
      obtain ⟨r, M', q1, q2, q3, q4, q5⟩ := hol_loop (e := e) (x := x) (c := c) (t := t) ⟨c1, c2⟩ w6 (by omega) m k M 0 (200 * t + f) none none hT w3 w4 (by omega) (by omega) (by decide) (by decide) g3
      refine ⟨some (.int r), M', ?_, q2, q3, _, List.mem_cons_self .., ⟨⟨r, rfl, q4, q5⟩, fun q hq => (by cases hq), [], trivial, fun q hq => (by cases hq), fun q hq => (by cases hq)⟩, fun h => absurd (show (187 : Nat) = 205 from h) (by decide)⟩
      refine hol_0 hM h13 h14 w2 w3 w5 w6 ?_
      rw [if_neg h0]
      rw [et] at q1
      exact hol_22 hM h13 w2 w5 q1
  · exact ha.2.2.2.elim
/-! BY HAND: walkers of the reference are laid one place down: the row s keeps its ranges -/
noncomputable def shB : Bool := match gNth sG 63 with
  | some (.inr (1, 2314, .inl sg)) => (List.range 354).all (fun j => match sgAt sg (158 + j), sgAt sg (164 + j) with
    | some p, some q => decide (p.1 ≤ q.1) && decide (q.2 ≤ p.2)
    | _, _ => false) && (List.range 360).all (fun j => match sgAt sg (158 + j) with
    | some p => decide (p.1 ≤ 0) && decide (0 ≤ p.2)
    | _ => false)
  | _ => false
set_option maxRecDepth 100000 in
theorem shB_ok : shB = true := by decide +kernel
theorem TM.s_put {M : Mem} (hT : TM sT sG M) {l : List Int32} (hM : gNth M 635 = some (.inl (1, .inl l))) {i : Nat} {y : Int32} (h1 : 158 ≤ i) (h : (i < 512 ∧ gNth l (i + 6) = some y) ∨ (i < 518 ∧ y = 0)) : TM sT sG (gPut M 635 (.inl (1, .inl (gPut l i y)))) := by
  have hB := shB_ok
  unfold shB at hB
  split at hB
  rotate_left
  · cases hB
  rename_i sg e
  obtain ⟨b1, b2⟩ := and_t hB
  obtain ⟨e1, e2, e3⟩ := hT.at sT_635 e
  rw [hM] at e2
  cases e2
  obtain ⟨l', e4, l1, l2⟩ := ct_int (by decide) e3
  cases e4
  refine hT.put (fun g2 t w1 w2 => ?_)
  rw [sT_635] at w1
  cases w1
  rw [e] at w2
  cases w2
  refine ct_mk (by decide) (by rw [put_len]; exact l1) (fun j x hj => ?_)
  rw [nth_put] at hj
  split at hj
  · rename_i hc
    cases hj
    obtain ⟨rfl, _⟩ := hc
    rcases h with ⟨h2, h3⟩ | ⟨h2, rfl⟩
    · obtain ⟨q, q1, q2, q3⟩ := l2 _ _ h3
      have h4 := List.all_eq_true.mp b1 (j - 158) (List.mem_range.mpr (by omega))
      have a1 : 158 + (j - 158) = j := by omega
      have a2 : 164 + (j - 158) = j + 6 := by omega
      rw [a1, a2, q1] at h4
      cases hp : sgAt sg j with
      | none => rw [hp] at h4; cases h4
      | some p => ?_
      rw [hp] at h4
      obtain ⟨h5, h6⟩ := and_t h4
      have h5 := of_decide_eq_true h5
      have h6 := of_decide_eq_true h6
      exact ⟨p, rfl, by omega, by omega⟩
    · have h4 := List.all_eq_true.mp b2 (j - 158) (List.mem_range.mpr (by omega))
      have a1 : 158 + (j - 158) = j := by omega
      rw [a1] at h4
      cases hp : sgAt sg j with
      | none => rw [hp] at h4; cases h4
      | some p => ?_
      rw [hp] at h4
      obtain ⟨h5, h6⟩ := and_t h4
      exact ⟨p, rfl, of_decide_eq_true h5, of_decide_eq_true h6⟩
  · exact l2 j x hj
/-! BY HAND: the reference's leave(k) -/
section G74
variable {M : Mem} {vs : List Value} {l : List Int32}
theorem gf_g {ix k : Nat} {st : List Value} {ini : Bool} {v : Value} {ty : Nat} (ho : gOwn fRs 11 ix = some (11, k, ty)) (hM : gNth M 633 = some (.inr (11, vs))) (hv : gNth vs k = some v) : gGet (.getfield ix) none 11 ini (.ref 633 :: st) M = some (v :: st, M) := by
  show (match gOwn fRs 11 ix, gNth M 633 with
    | some (ci, k, _), some (.inr (c, fs)) => match Nat.beq c ci, gNth fs k with
      | true, some v => some (v :: st, M)
      | _, _ => none
    | _, _ => none) = _
  rw [ho, hM]
  show (match Nat.beq 11 11, gNth vs k with
    | true, some v => some (v :: st, M)
    | _, _ => none) = _
  rw [hv]
theorem is_g {a : Nat} {st : List Value} {ini : Bool} {j x z : Int32} (hs : gNth M a = some (.inl (1, .inl l))) (h0 : gAt l j = some x) : gGet .iastore none 11 ini (.int z :: .int j :: .ref a :: st) M = some (st, gPut M a (.inl (1, .inl (gPut l j.toNatClampNeg z)))) := by
  show (match gNth M a with
    | some (.inl (1, .inl l)) => match gAt l j with
      | some _ => some (st, gPut M a (.inl (1, .inl (gPut l j.toNatClampNeg z))))
      | none => none
    | _ => none) = _
  rw [hs]
  show (match gAt l j with
      | some _ => some (st, gPut M a (.inl (1, .inl (gPut l j.toNatClampNeg z))))
      | none => none) = _
  rw [h0]
end G74
theorem lv_0 {e : Nat} {M : Mem} {M' : Mem} {v : Option Value} {vs : List Value} {k y1 : Int32} {l635 : List Int32} (hM : gNth M 633 = some (.inr (11, vs))) (v5 : gNth vs 5 = some (.ref 635)) (r635 : gNth M 635 = some (.inl (1, .inl l635))) (g1 : gAt l635 157 = some y1) (hz : Ev none e 205 21 [some (.ref 633), some (.int k), some (.int (158 + (6 * k)))] [] (gPut M 635 (.inl (1, .inl (gPut l635 (157 : Int32).toNatClampNeg (y1 - 1))))) v M' 0 0) : Ev none e 205 0 [some (.ref 633), some (.int k), none] [] M v M' 0 0 := by
  refine Ev.step (pc' := 1) (ls' := [some (.ref 633), some (.int k), none]) (st' := [.ref 633]) (M1 := M) 1 (fun n => rfl) ?_
  refine Ev.step 1 (gs_3 rfl rfl (gf_g rfl hM v5)) ?_
  refine Ev.step (pc' := 8) (ls' := [some (.ref 633), some (.int k), none]) (st' := [.int 157, .ref 635, .int 157, .ref 635]) (M1 := M) 2 (fun n => rfl) ?_
  refine Ev.step 1 (gs_3 rfl rfl (ia_g r635 g1)) ?_
  refine Ev.step (pc' := 11) (ls' := [some (.ref 633), some (.int k), none]) (st' := [.int (y1 - 1), .int 157, .ref 635]) (M1 := M) 2 (fun n => rfl) ?_
  refine Ev.step 1 (gs_4 rfl rfl (is_g r635 g1)) ?_
  refine Ev.step (pc' := 21) (ls' := [some (.ref 633), some (.int k), some (.int (158 + (6 * k)))]) (st' := []) (M1 := (gPut M 635 (.inl (1, .inl (gPut l635 (157 : Int32).toNatClampNeg (y1 - 1)))))) 6 (fun n => rfl) ?_
  exact hz
theorem lv_21 {e : Nat} {M : Mem} {M' : Mem} {v : Option Value} {vs : List Value} {i k y1 : Int32} {l635 : List Int32} (hM : gNth M 633 = some (.inr (11, vs))) (v5 : gNth vs 5 = some (.ref 635)) (r635 : gNth M 635 = some (.inl (1, .inl l635))) (g1 : gAt l635 157 = some y1) (hz : Ev none e 205 (if (158 + (6 * y1)) ≤ i then 61 else 40) [some (.ref 633), some (.int k), some (.int i)] [] M v M' 0 0) : Ev none e 205 21 [some (.ref 633), some (.int k), some (.int i)] [] M v M' 0 0 := by
  refine Ev.step (pc' := 28) (ls' := [some (.ref 633), some (.int k), some (.int i)]) (st' := [.ref 633, .int 6, .int 158, .int i]) (M1 := M) 4 (fun n => rfl) ?_
  refine Ev.step 1 (gs_3 rfl rfl (gf_g rfl hM v5)) ?_
  refine Ev.step (pc' := 34) (ls' := [some (.ref 633), some (.int k), some (.int i)]) (st' := [.int 157, .ref 635, .int 6, .int 158, .int i]) (M1 := M) 1 (fun n => rfl) ?_
  refine Ev.step 1 (gs_3 rfl rfl (ia_g r635 g1)) ?_
  refine Ev.step (pc' := (if (158 + (6 * y1)) ≤ i then 61 else 40)) (ls' := [some (.ref 633), some (.int k), some (.int i)]) (st' := []) (M1 := M) 3 (fun n => rfl) ?_
  exact hz
theorem lv_40 {e : Nat} {M : Mem} {M' : Mem} {v : Option Value} {vs : List Value} {i k y1 y2 : Int32} {l635 : List Int32} (hM : gNth M 633 = some (.inr (11, vs))) (v5 : gNth vs 5 = some (.ref 635)) (r635 : gNth M 635 = some (.inl (1, .inl l635))) (g1 : gAt l635 (i + 6) = some y1) (g2 : gAt l635 i = some y2) (hz : Ev none e 205 21 [some (.ref 633), some (.int k), some (.int (i + 1))] [] (gPut M 635 (.inl (1, .inl (gPut l635 i.toNatClampNeg y1)))) v M' 0 0) : Ev none e 205 40 [some (.ref 633), some (.int k), some (.int i)] [] M v M' 0 0 := by
  refine Ev.step (pc' := 41) (ls' := [some (.ref 633), some (.int k), some (.int i)]) (st' := [.ref 633]) (M1 := M) 1 (fun n => rfl) ?_
  refine Ev.step 1 (gs_3 rfl rfl (gf_g rfl hM v5)) ?_
  refine Ev.step (pc' := 46) (ls' := [some (.ref 633), some (.int k), some (.int i)]) (st' := [.ref 633, .int i, .ref 635]) (M1 := M) 2 (fun n => rfl) ?_
  refine Ev.step 1 (gs_3 rfl rfl (gf_g rfl hM v5)) ?_
  refine Ev.step (pc' := 53) (ls' := [some (.ref 633), some (.int k), some (.int i)]) (st' := [.int (i + 6), .ref 635, .int i, .ref 635]) (M1 := M) 3 (fun n => rfl) ?_
  refine Ev.step 1 (gs_3 rfl rfl (ia_g r635 g1)) ?_
  refine Ev.step 1 (gs_4 rfl rfl (is_g r635 g2)) ?_
  refine Ev.step (pc' := 21) (ls' := [some (.ref 633), some (.int k), some (.int (i + 1))]) (st' := []) (M1 := (gPut M 635 (.inl (1, .inl (gPut l635 i.toNatClampNeg y1))))) 2 (fun n => rfl) ?_
  exact hz
theorem lv_61 {e : Nat} {M : Mem} {M' : Mem} {v : Option Value} {vs : List Value} {i k y1 : Int32} {l635 : List Int32} (hM : gNth M 633 = some (.inr (11, vs))) (v5 : gNth vs 5 = some (.ref 635)) (r635 : gNth M 635 = some (.inl (1, .inl l635))) (g1 : gAt l635 157 = some y1) (hz : Ev none e 205 77 [some (.ref 633), some (.int k), some (.int (158 + (6 * y1)))] [] M v M' 0 0) : Ev none e 205 61 [some (.ref 633), some (.int k), some (.int i)] [] M v M' 0 0 := by
  refine Ev.step (pc' := 67) (ls' := [some (.ref 633), some (.int k), some (.int i)]) (st' := [.ref 633, .int 6, .int 158]) (M1 := M) 3 (fun n => rfl) ?_
  refine Ev.step 1 (gs_3 rfl rfl (gf_g rfl hM v5)) ?_
  refine Ev.step (pc' := 73) (ls' := [some (.ref 633), some (.int k), some (.int i)]) (st' := [.int 157, .ref 635, .int 6, .int 158]) (M1 := M) 1 (fun n => rfl) ?_
  refine Ev.step 1 (gs_3 rfl rfl (ia_g r635 g1)) ?_
  refine Ev.step (pc' := 77) (ls' := [some (.ref 633), some (.int k), some (.int (158 + (6 * y1)))]) (st' := []) (M1 := M) 3 (fun n => rfl) ?_
  exact hz
theorem lv_77 {e : Nat} {M : Mem} {M' : Mem} {v : Option Value} {vs : List Value} {i k y1 : Int32} {l635 : List Int32} (hM : gNth M 633 = some (.inr (11, vs))) (v5 : gNth vs 5 = some (.ref 635)) (r635 : gNth M 635 = some (.inl (1, .inl l635))) (g1 : gAt l635 157 = some y1) (hz : Ev none e 205 (if ((158 + (6 * y1)) + 6) ≤ i then 112 else 99) [some (.ref 633), some (.int k), some (.int i)] [] M v M' 0 0) : Ev none e 205 77 [some (.ref 633), some (.int k), some (.int i)] [] M v M' 0 0 := by
  refine Ev.step (pc' := 84) (ls' := [some (.ref 633), some (.int k), some (.int i)]) (st' := [.ref 633, .int 6, .int 158, .int i]) (M1 := M) 4 (fun n => rfl) ?_
  refine Ev.step 1 (gs_3 rfl rfl (gf_g rfl hM v5)) ?_
  refine Ev.step (pc' := 90) (ls' := [some (.ref 633), some (.int k), some (.int i)]) (st' := [.int 157, .ref 635, .int 6, .int 158, .int i]) (M1 := M) 1 (fun n => rfl) ?_
  refine Ev.step 1 (gs_3 rfl rfl (ia_g r635 g1)) ?_
  refine Ev.step (pc' := (if ((158 + (6 * y1)) + 6) ≤ i then 112 else 99)) (ls' := [some (.ref 633), some (.int k), some (.int i)]) (st' := []) (M1 := M) 5 (fun n => rfl) ?_
  exact hz
theorem lv_99 {e : Nat} {M : Mem} {M' : Mem} {v : Option Value} {vs : List Value} {i k y1 : Int32} {l635 : List Int32} (hM : gNth M 633 = some (.inr (11, vs))) (v5 : gNth vs 5 = some (.ref 635)) (r635 : gNth M 635 = some (.inl (1, .inl l635))) (g1 : gAt l635 i = some y1) (hz : Ev none e 205 77 [some (.ref 633), some (.int k), some (.int (i + 1))] [] (gPut M 635 (.inl (1, .inl (gPut l635 i.toNatClampNeg 0)))) v M' 0 0) : Ev none e 205 99 [some (.ref 633), some (.int k), some (.int i)] [] M v M' 0 0 := by
  refine Ev.step (pc' := 100) (ls' := [some (.ref 633), some (.int k), some (.int i)]) (st' := [.ref 633]) (M1 := M) 1 (fun n => rfl) ?_
  refine Ev.step 1 (gs_3 rfl rfl (gf_g rfl hM v5)) ?_
  refine Ev.step (pc' := 105) (ls' := [some (.ref 633), some (.int k), some (.int i)]) (st' := [.int 0, .int i, .ref 635]) (M1 := M) 2 (fun n => rfl) ?_
  refine Ev.step 1 (gs_4 rfl rfl (is_g r635 g1)) ?_
  refine Ev.step (pc' := 77) (ls' := [some (.ref 633), some (.int k), some (.int (i + 1))]) (st' := []) (M1 := (gPut M 635 (.inl (1, .inl (gPut l635 i.toNatClampNeg 0))))) 2 (fun n => rfl) ?_
  exact hz
theorem lv_112 {e : Nat} {M : Mem} {i k : Int32}  : Ev none e 205 112 [some (.ref 633), some (.int k), some (.int i)] [] M none M 0 0 := by
  exact Ev.ret (fun n => rfl)
set_option maxRecDepth 100000 in
theorem rw_63 : rwB 63 1 2314 (-2147483648) 2147483647 = true := by decide +kernel
set_option maxRecDepth 100000 in
theorem mf_63 : mfB 5 63 = true := by decide +kernel
noncomputable def sB (i : Nat) (lo hi : Int) : Bool := match gNth sG 63 with
  | some (.inr (1, 2314, .inl sg)) => (match sgAt sg i with
    | some p => decide (p.1 = lo) && decide (p.2 = hi)
    | _ => false)
  | _ => false
theorem sB_inv {i : Nat} {lo hi : Int} (h : sB i lo hi = true) : ∃ sg p, gNth sG 63 = some (.inr (1, 2314, .inl sg)) ∧ sgAt sg i = some p ∧ p.1 = lo ∧ p.2 = hi := by
  unfold sB at h
  split at h
  · rename_i sg e
    cases e2 : sgAt sg i with
    | none => rw [e2] at h; cases h
    | some p =>
      rw [e2] at h
      obtain ⟨h1, h2⟩ := and_t h
      exact ⟨sg, p, e, e2, of_decide_eq_true h1, of_decide_eq_true h2⟩
  · cases h
/-- the range of a place of s -/
theorem TM.s_in {M : Mem} (hT : TM sT sG M) {l : List Int32} (hM : gNth M 635 = some (.inl (1, .inl l))) {i : Nat} {lo hi : Int} {y : Int32} (hB : sB i lo hi = true) (hy : gNth l i = some y) : lo ≤ y.toInt ∧ y.toInt ≤ hi := by
  obtain ⟨sg, p, e, e4, rfl, rfl⟩ := sB_inv hB
  obtain ⟨e1, e2, e3⟩ := hT.at sT_635 e
  rw [hM] at e2
  cases e2
  obtain ⟨l', e5, l1, l2⟩ := ct_int (by decide) e3
  cases e5
  obtain ⟨q, q1, q2, q3⟩ := l2 _ _ hy
  rw [e4] at q1
  cases q1
  exact ⟨q2, q3⟩
theorem TM.s_1 {M : Mem} (hT : TM sT sG M) {l : List Int32} (hM : gNth M 635 = some (.inl (1, .inl l))) {i : Nat} {lo hi : Int} {y : Int32} (hB : sB i lo hi = true) (h1 : lo ≤ y.toInt) (h2 : y.toInt ≤ hi) : TM sT sG (gPut M 635 (.inl (1, .inl (gPut l i y)))) := by
  obtain ⟨sg, p, e, e4, rfl, rfl⟩ := sB_inv hB
  obtain ⟨e1, e2, e3⟩ := hT.at sT_635 e
  rw [hM] at e2
  cases e2
  obtain ⟨l', e5, l1, l2⟩ := ct_int (by decide) e3
  cases e5
  refine hT.put (fun g2 t w1 w2 => ?_)
  rw [sT_635] at w1
  cases w1
  rw [e] at w2
  cases w2
  refine ct_mk (by decide) (by rw [put_len]; exact l1) (fun j x hj => ?_)
  rw [nth_put] at hj
  split at hj
  · rename_i hc
    cases hj
    obtain ⟨rfl, _⟩ := hc
    exact ⟨p, e4, h1, h2⟩
  · exact l2 j x hj
theorem TM.s_all {M : Mem} (hT : TM sT sG M) : ∃ vs l, gNth M 633 = some (.inr (11, vs)) ∧ gNth vs 5 = some (.ref 635) ∧ gNth M 635 = some (.inl (1, .inl l)) ∧ l.length = 2314 := by
  obtain ⟨vs, hM, hv⟩ := hT.mfld
  obtain ⟨l, h1, h2, _⟩ := hT.mrow sT_635 rw_63
  exact ⟨vs, l, hM, hv _ _ _ mf_63 sU_63, h1, h2⟩
/-- a place of a row -/
theorem at_c {α : Type} {l : List α} {j : Int32} {kn : Nat} (h : j.toInt = (kn : Int)) (hl : kn < l.length) : ∃ y, gAt l j = some y ∧ gNth l kn = some y := by
  refine ⟨l[kn], ?_, ?_⟩
  · rw [at_nn h, nth_eq, List.getElem?_eq_getElem hl]
  · rw [nth_eq, List.getElem?_eq_getElem hl]
theorem cl_n {j : Int32} {kn : Nat} (h : j.toInt = (kn : Int)) : j.toNatClampNeg = kn := by
  obtain ⟨_, h2⟩ := clp_of (x := j) (a := 0) (b := j.toInt) ⟨by omega, Int.le_refl _⟩ (Int.le_refl _)
  omega
/-- what stands of s while someone leaves -/
def LvS (w : Int32) (M0 M : Mem) : Prop := TM sT sG M ∧ Frm sT [(1063, 0)] M0 M ∧ ∃ l, gNth M 635 = some (.inl (1, .inl l)) ∧ gNth l 157 = some w ∧ evS l ∧ dsS l
theorem LvS.put {w : Int32} {M0 M : Mem} {l : List Int32} (h : LvS w M0 M) (hM : gNth M 635 = some (.inl (1, .inl l))) {i : Nat} {y : Int32} (h1 : 158 ≤ i) (h2 : (i < 512 ∧ gNth l (i + 6) = some y) ∨ (i < 518 ∧ y = 0)) : LvS w M0 (gPut M 635 (.inl (1, .inl (gPut l i y)))) := by
  obtain ⟨hT, hF, l2, e1, e2, e3, e4⟩ := h
  cases e1.symm.trans hM
  refine ⟨hT.s_put hM h1 h2, hF.trans (Frm.row hM sT_635 (List.mem_singleton.mpr rfl)), _, by rw [nth_put, if_pos ⟨rfl, gNth_lt _ _ _ hM⟩], ?_, e3.put (Or.inr (Or.inl (by omega))), e4.put (by omega)⟩
  rw [nth_put, if_neg (fun q => absurd q.1 (by omega))]
  exact e2
theorem i32_e (w : Int32) (h0 : 0 ≤ w.toInt) (h1 : w.toInt ≤ 60) : (158 + 6 * w).toInt = 158 + 6 * w.toInt ∧ (158 + 6 * w + 6).toInt = 164 + 6 * w.toInt := by
  have o6 : (6 : Int32).toInt = 6 := rfl
  have o158 : (158 : Int32).toInt = 158 := rfl
  have d1 : (6 * w).toInt = 6 * w.toInt := by
    rw [i32_mul (by rw [o6]; omega) (by rw [o6]; omega), o6]
  have d2 : (158 + 6 * w).toInt = 158 + 6 * w.toInt := by
    rw [i32_add (by rw [o158]; omega) (by rw [o158]; omega), d1, o158]
  refine ⟨d2, ?_⟩
  rw [i32_add (by rw [d2, o6]; omega) (by rw [d2, o6]; omega), d2, o6]
  omega
theorem lv_loop2 {w k : Int32} {M0 : Mem} {e : Nat} (w0 : 0 ≤ w.toInt) (w1 : w.toInt ≤ 59) : ∀ (n inn : Nat) (M : Mem) (i : Int32), LvS w M0 M → i.toInt = (inn : Int) → 158 ≤ inn → (inn : Int) + n = 164 + 6 * w.toInt → ∃ MF, Ev none e 205 77 [some (.ref 633), some (.int k), some (.int i)] [] M none MF 0 0 ∧ LvS w M0 MF := by
  intro n
  obtain ⟨E1, E2⟩ := i32_e w w0 (by omega)
  induction n with
  | zero =>
    intro inn M i hL hi h1 hn
    obtain ⟨vs, l, hM, h5, hs, sl⟩ := hL.1.s_all
    obtain ⟨_, _, l2, e1, e2, e3⟩ := id hL
    cases e1.symm.trans hs
    have g157 : gAt l 157 = some w := by rw [at_nn (kn := 157) rfl]; exact e2
    refine ⟨M, lv_77 hM h5 hs g157 ?_, hL⟩
    rw [if_pos (by rw [Int32.le_iff_toInt_le, E2]; omega)]
    exact lv_112
  | succ n ih =>
    intro inn M i hL hi h1 hn
    obtain ⟨vs, l, hM, h5, hs, sl⟩ := hL.1.s_all
    obtain ⟨_, _, l2, e1, e2, e3⟩ := id hL
    cases e1.symm.trans hs
    have g157 : gAt l 157 = some w := by rw [at_nn (kn := 157) rfl]; exact e2
    obtain ⟨y, y1, y2⟩ := at_c (l := l) hi (by omega)
    have hp := hL.put hs (i := inn) (y := 0) h1 (Or.inr ⟨by omega, rfl⟩)
    have e4 : (i + 1).toInt = i.toInt + 1 := i32_p1 (by omega)
    obtain ⟨MF, q1, q2⟩ := ih (inn + 1) _ (i + 1) hp (by omega) (by omega) (by omega)
    refine ⟨MF, lv_77 hM h5 hs g157 ?_, q2⟩
    rw [if_neg (by rw [Int32.le_iff_toInt_le, E2]; omega)]
    refine lv_99 hM h5 hs y1 ?_
    rw [cl_n hi]
    exact q1
theorem lv_loop1 {w k : Int32} {M0 : Mem} {e : Nat} (w0 : 0 ≤ w.toInt) (w1 : w.toInt ≤ 59) : ∀ (n inn : Nat) (M : Mem) (i : Int32), LvS w M0 M → i.toInt = (inn : Int) → 158 ≤ inn → 158 + 6 * w.toInt ≤ (inn : Int) + n → ∃ MF, Ev none e 205 21 [some (.ref 633), some (.int k), some (.int i)] [] M none MF 0 0 ∧ LvS w M0 MF := by
  intro n
  obtain ⟨E1, E2⟩ := i32_e w w0 (by omega)
  have fin : ∀ (M : Mem) (i : Int32), LvS w M0 M → (158 + 6 * w ≤ i) → ∃ MF, Ev none e 205 21 [some (.ref 633), some (.int k), some (.int i)] [] M none MF 0 0 ∧ LvS w M0 MF := by
    intro M i hL hle
    obtain ⟨vs, l, hM, h5, hs, sl⟩ := hL.1.s_all
    obtain ⟨_, _, l2, e1, e2, e3⟩ := id hL
    cases e1.symm.trans hs
    have g157 : gAt l 157 = some w := by rw [at_nn (kn := 157) rfl]; exact e2
    obtain ⟨MF, q1, q2⟩ := lv_loop2 (w := w) (k := k) (M0 := M0) (e := e) w0 w1 6 (158 + 6 * w.toInt).toNat M (158 + 6 * w) hL (by omega) (by omega) (by omega)
    refine ⟨MF, lv_21 hM h5 hs g157 ?_, q2⟩
    rw [if_pos hle]
    exact lv_61 hM h5 hs g157 q1
  induction n with
  | zero =>
    intro inn M i hL hi h1 hn
    exact fin M i hL (by rw [Int32.le_iff_toInt_le, E1]; omega)
  | succ n ih =>
    intro inn M i hL hi h1 hn
    by_cases hle : 158 + 6 * w ≤ i
    · exact fin M i hL hle
    have hlt : i.toInt < 158 + 6 * w.toInt := by
      rw [Int32.le_iff_toInt_le, E1] at hle
      omega
    obtain ⟨vs, l, hM, h5, hs, sl⟩ := hL.1.s_all
    obtain ⟨_, _, l2, e1, e2, e3⟩ := id hL
    cases e1.symm.trans hs
    have g157 : gAt l 157 = some w := by rw [at_nn (kn := 157) rfl]; exact e2
    obtain ⟨y, y1, y2⟩ := at_c (l := l) hi (by omega)
    have o6 : (6 : Int32).toInt = 6 := rfl
    have e6 : (i + 6).toInt = ((inn + 6 : Nat) : Int) := by
      rw [i32_add (by rw [o6]; omega) (by rw [o6]; omega), o6]
      omega
    obtain ⟨z, z1, z2⟩ := at_c (l := l) e6 (by omega)
    have hp := hL.put hs (i := inn) (y := z) h1 (Or.inl ⟨by omega, z2⟩)
    have e4 : (i + 1).toInt = i.toInt + 1 := i32_p1 (by omega)
    obtain ⟨MF, q1, q2⟩ := ih (inn + 1) _ (i + 1) hp (by omega) (by omega) (by omega)
    refine ⟨MF, lv_21 hM h5 hs g157 ?_, q2⟩
    rw [if_neg hle]
    refine lv_40 hM h5 hs z1 y1 ?_
    rw [cl_n hi]
    exact q1
def kX11_leave : CN := (205, 0, [.inr 1900, .inl (.ofNat 0, .ofNat 59)], [], [(26, []), (28, [])], [(1063, 0)], [(none, [], [], [(28, [])], [])])
set_option maxRecDepth 100000 in
theorem mR_205 : (gNth mRs 205).map (fun q => q.2.2.2.1) = some 3 := by decide +kernel
set_option maxRecDepth 100000 in
theorem sB_157 : sB 157 0 60 = true := by decide +kernel
theorem kX11_leave_ok : cnOK sT sG FL0 kX11_leave := by
  intro d M ws q hd hq ha hp hT
  have hm := mR_205
  have hq' : gNth mRs 205 = some q := hq
  rw [hq'] at hm
  have hm : q.2.2.2.1 = 3 := Option.some.inj hm
  rcases ws with _ | ⟨a, _ | ⟨b, _ | ⟨b2, r⟩⟩⟩
  · exact ha.elim
  · exact ha.2.elim
  · obtain ⟨k1, ⟨k, rfl, c1, c2⟩, _⟩ := ha
    have k1 : a = .ref 633 := k1
    subst k1
    have c1 : 0 ≤ k.toInt := c1
    have c2 : k.toInt ≤ 59 := c2
    obtain ⟨hv, hv0, hfl⟩ := hp
    obtain ⟨y26, z26, h26⟩ := hfl (26, []) (List.mem_cons_self ..)
    obtain ⟨y28, z28, h28⟩ := hfl (28, []) (List.mem_cons_of_mem _ (List.mem_cons_self ..))
    obtain ⟨t, l, W, q1, q2, q3⟩ := fl0_26 h26
    obtain ⟨t2, l2, p1, p2, p3⟩ := fl0_28 h28
    obtain ⟨vs, l3, hM, h5, hs, sl⟩ := hT.s_all
    have el : l3 = l := by cases hs.symm.trans q1; rfl
    have el2 : l2 = l := by cases p1.symm.trans q1; rfl
    subst el
    subst el2
    obtain ⟨w1, w2⟩ := hT.s_in hs sB_157 q2
    have g157 : gAt l2 157 = some W := by rw [at_nn (kn := 157) rfl]; exact q2
    obtain ⟨w, ew⟩ : ∃ w, w = W - 1 := ⟨_, rfl⟩
    have dw : w.toInt = W.toInt - 1 := by rw [ew]; exact i32_m1 (by omega)
    have hlt := gNth_lt _ _ _ hs
    have hL : LvS w M (gPut M 635 (.inl (1, .inl (gPut l2 157 w)))) := by
      refine ⟨hT.s_1 hs sB_157 (by omega) (by omega), Frm.row hs sT_635 (List.mem_singleton.mpr rfl), _, by rw [nth_put, if_pos ⟨rfl, hlt⟩], ?_, p2.put (Or.inr (Or.inl (by omega))), p3.put (by omega)⟩
      rw [nth_put, if_pos ⟨rfl, by omega⟩]
    obtain ⟨E1, E2⟩ := i32_e k c1 (by omega)
    obtain ⟨MF, r1, r2, r3, l4, r4, r5, r6⟩ := lv_loop1 (w := w) (k := k) (M0 := M) (e := d) (by omega) (by omega) 518 (158 + 6 * k.toInt).toNat _ (158 + 6 * k) hL (by omega) (by omega) (by omega)
    rw [hm]
    refine ⟨none, MF, lv_0 hM h5 hs g157 (by rw [← ew, cl_n (kn := 157) rfl]; exact r1), r2, r3, _, List.mem_cons_self .., ⟨trivial, fun q hq => (by cases hq), [], trivial, fun f hf => ?_, fun q hq => (by cases hq)⟩, fun _ t5 l5 x5 s1 s2 => ?_⟩
    · cases List.mem_singleton.mp hf
      exact ⟨[], trivial, (show FL0 28 [] MF from ⟨1, l4, r4, r6⟩)⟩
    · cases hs.symm.trans s1
      cases q2.symm.trans s2
      exact ⟨l4, w, r4, r5, dw⟩
  · exact ha.2.2.elim
/-! BY HAND: octet, of, isGreen, price -/
theorem ba0_g {M : Mem} {l : List Int32} {a : Nat} {st : List Value} {ini : Bool} {j x : Int32} (hs : gNth M a = some (.inl (0, .inl l))) (h0 : gAt l j = some x) : gGet .baload none 11 ini (.int j :: .ref a :: st) M = some (.int x :: st, M) := by
  show (match gNth M a with
    | some (.inl (0, .inl l)) => match gAt l j with
      | some x => some (Value.int x :: st, M)
      | none => none
    | some (.inl (3, .inl l)) => match gAt l j with
      | some x => some (Value.int x :: st, M)
      | none => none
    | _ => none) = _
  rw [hs]
  show (match gAt l j with
      | some x => some (Value.int x :: st, M)
      | none => none) = _
  rw [h0]
theorem cal_gr {M : Mem} {vs : List Value} {a0 : Int32} {rest : List Value} (hM : gNth M 633 = some (.inr (11, vs))) (hr : gRoom rest = true) : gCal (.invokevirtual 356) 11 (.int a0 :: .ref 633 :: rest) M = some (.inr (149, [some (.ref 633), some (.int a0)], rest)) := by
  show @cond (Option ((List Value × Mem) ⊕ (Nat × Lo × List Value))) (true && gRecv M (.ref 633) 11 && gRoom rest && true) (some (.inr (149, [some (.ref 633), some (.int a0)], rest))) none = _
  rw [recv_ok hM, hr]
  rfl
theorem oc_0 {e : Nat} {M : Mem} {vs : List Value} {k y1 : Int32} {l634 : List Int32} (hM : gNth M 633 = some (.inr (11, vs))) (v1 : gNth vs 1 = some (.ref 634)) (r634 : gNth M 634 = some (.inl (0, .inl l634))) (g1 : gAt l634 k = some y1) : Ev none e 142 0 [some (.ref 633), some (.int k)] [] M (some (.int (y1 &&& 255))) M 0 0 := by
  refine Ev.step (pc' := 1) (ls' := [some (.ref 633), some (.int k)]) (st' := [.ref 633]) (M1 := M) 1 (fun n => rfl) ?_
  refine Ev.step 1 (gs_3 rfl rfl (gf_g rfl hM v1)) ?_
  refine Ev.step (pc' := 5) (ls' := [some (.ref 633), some (.int k)]) (st' := [.int k, .ref 634]) (M1 := M) 1 (fun n => rfl) ?_
  refine Ev.step 1 (gs_3 rfl rfl (ba0_g r634 g1)) ?_
  refine Ev.step (pc' := 10) (ls' := [some (.ref 633), some (.int k)]) (st' := [.int (y1 &&& 255)]) (M1 := M) 2 (fun n => rfl) ?_
  exact Ev.ret (fun n => rfl)
theorem pr_0 {e : Nat} {M : Mem} {M' : Mem} {v : Option Value} {c : Int32}  (hz : Ev none (e + 1) 224 2 [some (.ref 633), some (.int c)] [.int c, .ref 633] M v M' 0 0) : Ev none (e + 1) 224 0 [some (.ref 633), some (.int c)] [] M v M' 0 0 := by
  refine Ev.step (pc' := 2) (ls' := [some (.ref 633), some (.int c)]) (st' := [.int c, .ref 633]) (M1 := M) 2 (fun n => rfl) ?_
  exact hz
theorem pr_5 {e : Nat} {M : Mem} {M' : Mem} {v : Option Value} {c z : Int32}  (hz : Ev none e 224 (if z = 0 then 13 else 8) [some (.ref 633), some (.int c)] [] M v M' 0 0) : Ev none e 224 5 [some (.ref 633), some (.int c)] [.int z] M v M' 0 0 := by
  refine Ev.step (pc' := (if z = 0 then 13 else 8)) (ls' := [some (.ref 633), some (.int c)]) (st' := []) (M1 := M) 1 (fun n => rfl) ?_
  exact hz
theorem pr_8 {e : Nat} {M : Mem} {c : Int32}  : Ev none e 224 8 [some (.ref 633), some (.int c)] [] M (some (.int 21)) M 0 0 := by
  refine Ev.step (pc' := 14) (ls' := [some (.ref 633), some (.int c)]) (st' := [.int 21]) (M1 := M) 2 (fun n => rfl) ?_
  exact Ev.ret (fun n => rfl)
theorem pr_13 {e : Nat} {M : Mem} {c : Int32}  : Ev none e 224 13 [some (.ref 633), some (.int c)] [] M (some (.int 1)) M 0 0 := by
  refine Ev.step (pc' := 14) (ls' := [some (.ref 633), some (.int c)]) (st' := [.int 1]) (M1 := M) 1 (fun n => rfl) ?_
  exact Ev.ret (fun n => rfl)
theorem ig_0 {e : Nat} {M : Mem} {M' : Mem} {v : Option Value} {c : Int32}  (hz : Ev none (e + 1) 149 3 [some (.ref 633), some (.int c)] [.int 0, .int c, .ref 633] M v M' 0 0) : Ev none (e + 1) 149 0 [some (.ref 633), some (.int c)] [] M v M' 0 0 := by
  refine Ev.step (pc' := 3) (ls' := [some (.ref 633), some (.int c)]) (st' := [.int 0, .int c, .ref 633]) (M1 := M) 3 (fun n => rfl) ?_
  exact hz
theorem ig_6 {e : Nat} {M : Mem} {M' : Mem} {v : Option Value} {c z : Int32}  (hz : Ev none e 149 (if z = 0 then 19 else 9) [some (.ref 633), some (.int c)] [] M v M' 0 0) : Ev none e 149 6 [some (.ref 633), some (.int c)] [.int z] M v M' 0 0 := by
  refine Ev.step (pc' := (if z = 0 then 19 else 9)) (ls' := [some (.ref 633), some (.int c)]) (st' := []) (M1 := M) 1 (fun n => rfl) ?_
  exact hz
theorem ig_9 {e : Nat} {M : Mem} {M' : Mem} {v : Option Value} {c : Int32}  (hz : Ev none (e + 1) 149 12 [some (.ref 633), some (.int c)] [.int 0, .int c, .ref 633] M v M' 0 0) : Ev none (e + 1) 149 9 [some (.ref 633), some (.int c)] [] M v M' 0 0 := by
  refine Ev.step (pc' := 12) (ls' := [some (.ref 633), some (.int c)]) (st' := [.int 0, .int c, .ref 633]) (M1 := M) 3 (fun n => rfl) ?_
  exact hz
theorem ig_15 {e : Nat} {M : Mem} {M' : Mem} {v : Option Value} {c z : Int32}  (hz : Ev none e 149 (if z = 2 then 19 else 23) [some (.ref 633), some (.int c)] [] M v M' 0 0) : Ev none e 149 15 [some (.ref 633), some (.int c)] [.int z] M v M' 0 0 := by
  refine Ev.step (pc' := (if z = 2 then 19 else 23)) (ls' := [some (.ref 633), some (.int c)]) (st' := []) (M1 := M) 2 (fun n => rfl) ?_
  exact hz
theorem ig_19 {e : Nat} {M : Mem} {c : Int32}  : Ev none e 149 19 [some (.ref 633), some (.int c)] [] M (some (.int 1)) M 0 0 := by
  refine Ev.step (pc' := 24) (ls' := [some (.ref 633), some (.int c)]) (st' := [.int 1]) (M1 := M) 2 (fun n => rfl) ?_
  exact Ev.ret (fun n => rfl)
theorem ig_23 {e : Nat} {M : Mem} {c : Int32}  : Ev none e 149 23 [some (.ref 633), some (.int c)] [] M (some (.int 0)) M 0 0 := by
  refine Ev.step (pc' := 24) (ls' := [some (.ref 633), some (.int c)]) (st' := [.int 0]) (M1 := M) 1 (fun n => rfl) ?_
  exact Ev.ret (fun n => rfl)
theorem of_0 {e : Nat} {M : Mem} {vs : List Value} {c k y1 : Int32} {l635 : List Int32} (hM : gNth M 633 = some (.inr (11, vs))) (v5 : gNth vs 5 = some (.ref 635)) (r635 : gNth M 635 = some (.inl (1, .inl l635))) (g1 : gAt l635 ((522 + (7 * c)) + k) = some y1) : Ev none e 146 0 [some (.ref 633), some (.int c), some (.int k)] [] M (some (.int y1)) M 0 0 := by
  refine Ev.step (pc' := 1) (ls' := [some (.ref 633), some (.int c), some (.int k)]) (st' := [.ref 633]) (M1 := M) 1 (fun n => rfl) ?_
  refine Ev.step 1 (gs_3 rfl rfl (gf_g rfl hM v5)) ?_
  refine Ev.step (pc' := 14) (ls' := [some (.ref 633), some (.int c), some (.int k)]) (st' := [.int ((522 + (7 * c)) + k), .ref 635]) (M1 := M) 7 (fun n => rfl) ?_
  refine Ev.step 1 (gs_3 rfl rfl (ia_g r635 g1)) ?_
  exact Ev.ret (fun n => rfl)
set_option maxRecDepth 100000 in
theorem rw_62 : rwB 62 0 440 (-128) 127 = true := by decide +kernel
set_option maxRecDepth 100000 in
theorem mf_62 : mfB 1 62 = true := by decide +kernel
set_option maxRecDepth 100000 in
theorem sU_62 : gNth sU 62 = some (some 634) := by decide +kernel
set_option maxRecDepth 100000 in
theorem sT_634 : gNth sT 634 = some 62 := by decide +kernel
theorem and_255 (x : Int32) : 0 ≤ (x &&& 255).toInt ∧ (x &&& 255).toInt ≤ 255 := by
  obtain ⟨m, hm, e2⟩ := and_le x (n := 255) (by decide)
  have e3 : nI 255 = 255 := rfl
  rw [e3] at e2
  rw [e2, nI_toInt (by omega)]
  omega
theorem cn_D {M : Mem} {id : Nat} (h : (Nat.beq id 205) = false) {M2 : Mem} : dlOK id M M2 := fun e => by
  rw [e] at h
  cases h
def kX11_octet : CN := (142, 0, [.inr 1900, .inl (.ofNat 0, .ofNat 439)], [], [], [], [(some (.inl (.ofNat 0, .ofNat 255)), [], [], [(62, [([(2, .ofNat 1)], .ofNat 0), ([(0, .ofNat 1)], .ofNat 0)])], [])])
set_option maxRecDepth 100000 in
theorem mR_142 : (gNth mRs 142).map (fun q => q.2.2.2.1) = some 2 := by decide +kernel
theorem kX11_octet_ok : cnOK sT sG FL0 kX11_octet := by
  intro d M ws q hd hq ha _ hT
  have hm := mR_142
  have hq' : gNth mRs 142 = some q := hq
  rw [hq'] at hm
  have hm : q.2.2.2.1 = 2 := Option.some.inj hm
  rcases ws with _ | ⟨a, _ | ⟨b, _ | ⟨b2, r⟩⟩⟩
  · exact ha.elim
  · exact ha.2.elim
  · obtain ⟨k1, ⟨k, rfl, c1, c2⟩, _⟩ := ha
    have k1 : a = .ref 633 := k1
    subst k1
    have c1 : 0 ≤ k.toInt := c1
    have c2 : k.toInt ≤ 439 := c2
    obtain ⟨vs, hM, hv⟩ := hT.mfld
    obtain ⟨l, h1, h2, _⟩ := hT.mrow sT_634 rw_62
    obtain ⟨kn, hkn⟩ : ∃ kn : Nat, k.toInt = (kn : Int) := ⟨k.toInt.toNat, by omega⟩
    obtain ⟨y, y1, y2⟩ := at_c (l := l) hkn (by omega)
    obtain ⟨r1, r2⟩ := and_255 y
    rw [hm]
    refine ⟨some (.int (y &&& 255)), M, oc_0 hM (hv _ _ _ mf_62 sU_62) h1 y1, hT, Frm.refl M, _, List.mem_cons_self .., ⟨⟨_, rfl, r1, r2⟩, fun q hq => (by cases hq), [], trivial, fun f hf => ?_, fun q hq => (by cases hq)⟩, cn_D rfl⟩
    cases List.mem_singleton.mp hf
    exact ⟨[(kn : Int), (y &&& 255).toInt], Two.mk ⟨1 * k.toInt + 0, rfl, by show (kn : Int) = 1 * k.toInt + 0 + 0; omega⟩ (Two.mk ⟨1 * (y &&& 255).toInt + 0, rfl, by show (y &&& 255).toInt = 1 * (y &&& 255).toInt + 0 + 0; omega⟩ trivial), (show FL0 62 _ M from ⟨0, l, y, kn, rfl, h1, y2⟩)⟩
  · exact ha.2.2.elim
/-- of, isGreen, price as values -/
theorem ev_of {M : Mem} {e : Nat} {vs : List Value} {l : List Int32} {c k y : Int32} (hM : gNth M 633 = some (.inr (11, vs))) (h5 : gNth vs 5 = some (.ref 635)) (hs : gNth M 635 = some (.inl (1, .inl l))) (hy : gAt l (522 + 7 * c + k) = some y) : Ev none e 146 0 [some (.ref 633), some (.int c), some (.int k)] [] M (some (.int y)) M 0 0 := of_0 hM h5 hs hy
theorem ev_green {M : Mem} {e : Nat} {vs : List Value} {l : List Int32} {c y : Int32} (hM : gNth M 633 = some (.inr (11, vs))) (h5 : gNth vs 5 = some (.ref 635)) (hs : gNth M 635 = some (.inl (1, .inl l))) (hy : gAt l (522 + 7 * c + 0) = some y) : Ev none (e + 1) 149 0 [some (.ref 633), some (.int c)] [] M (some (.int (if y = 0 then 1 else if y = 2 then 1 else 0))) M 0 0 := by
  refine ig_0 (Ev.call0 (fun n => gs_7 rfl rfl (cal_of hM rfl)) (ev_of hM h5 hs hy) (ig_6 ?_))
  by_cases h0 : y = 0
  · rw [if_pos h0, if_pos h0]
    exact ig_19
  · rw [if_neg h0, if_neg h0]
    refine ig_9 (Ev.call0 (fun n => gs_7 rfl rfl (cal_of hM rfl)) (ev_of hM h5 hs hy) (ig_15 ?_))
    by_cases h2 : y = 2
    · rw [if_pos h2, if_pos h2]
      exact ig_19
    · rw [if_neg h2, if_neg h2]
      exact ig_23
theorem ev_price {M : Mem} {e : Nat} {vs : List Value} {l : List Int32} {c y : Int32} (hM : gNth M 633 = some (.inr (11, vs))) (h5 : gNth vs 5 = some (.ref 635)) (hs : gNth M 635 = some (.inl (1, .inl l))) (hy : gAt l (522 + 7 * c + 0) = some y) : Ev none (e + 2) 224 0 [some (.ref 633), some (.int c)] [] M (some (.int (prI y))) M 0 0 := by
  refine pr_0 (e := e + 1) (Ev.call0 (fun n => gs_7 rfl rfl (cal_gr hM rfl)) (ev_green hM h5 hs hy) (pr_5 ?_))
  unfold prI
  by_cases h0 : y = 0
  · rw [if_pos h0, if_pos h0]
    exact pr_8
  · rw [if_neg h0, if_neg h0]
    by_cases h2 : y = 2
    · rw [if_pos h2, if_pos h2]
      exact pr_8
    · rw [if_neg h2, if_neg h2]
      exact pr_13
/-- a place of a cell in s -/
theorem i32_cell {c k : Int32} (h0 : 0 ≤ c.toInt) (h1 : c.toInt ≤ 255) (k0 : 0 ≤ k.toInt) (k1 : k.toInt ≤ 6) : (522 + 7 * c + k).toInt = 522 + 7 * c.toInt + k.toInt := by
  have o7 : (7 : Int32).toInt = 7 := rfl
  have o522 : (522 : Int32).toInt = 522 := rfl
  have d1 : (7 * c).toInt = 7 * c.toInt := by
    rw [i32_mul (by rw [o7]; omega) (by rw [o7]; omega), o7]
  have d2 : (522 + 7 * c).toInt = 522 + 7 * c.toInt := by
    rw [i32_add (by rw [o522]; omega) (by rw [o522]; omega), d1, o522]
  rw [i32_add (by rw [d2]; omega) (by rw [d2]; omega), d2]
theorem prI_in (y : Int32) : 1 ≤ (prI y).toInt ∧ (prI y).toInt ≤ 21 := by
  unfold prI
  split
  · decide
  · split <;> decide
def kX11_price : CN := (224, 2, [.inr 1900, .inl (.ofNat 0, .ofNat 255)], [], [], [], [(some (.inl (.ofNat 1, .ofNat 21)), [], [], [(66, [([(2, .ofNat 1)], .ofNat 0), ([(0, .ofNat 1)], .ofNat 0)])], [])])
set_option maxRecDepth 100000 in
theorem mR_224 : (gNth mRs 224).map (fun q => q.2.2.2.1) = some 2 := by decide +kernel
theorem kX11_price_ok : cnOK sT sG FL0 kX11_price := by
  intro d M ws q hd hq ha _ hT
  have hm := mR_224
  have hq' : gNth mRs 224 = some q := hq
  rw [hq'] at hm
  have hm : q.2.2.2.1 = 2 := Option.some.inj hm
  obtain ⟨e, rfl⟩ : ∃ e, d = e + 2 := ⟨d - 2, by have : 2 ≤ d := hd; omega⟩
  rcases ws with _ | ⟨a, _ | ⟨b, _ | ⟨b2, r⟩⟩⟩
  · exact ha.elim
  · exact ha.2.elim
  · obtain ⟨k1, ⟨c, rfl, c1, c2⟩, _⟩ := ha
    have k1 : a = .ref 633 := k1
    subst k1
    have c1 : 0 ≤ c.toInt := c1
    have c2 : c.toInt ≤ 255 := c2
    obtain ⟨vs, l, hM, h5, hs, sl⟩ := hT.s_all
    have e0 : (0 : Int32).toInt = 0 := rfl
    have ec := i32_cell (c := c) (k := 0) c1 c2 (by decide) (by decide)
    obtain ⟨kn, hkn⟩ : ∃ kn : Nat, (522 + 7 * c + 0 : Int32).toInt = (kn : Int) := ⟨(522 + 7 * c.toInt).toNat, by omega⟩
    obtain ⟨y, y1, y2⟩ := at_c (l := l) hkn (by omega)
    obtain ⟨r1, r2⟩ := prI_in y
    rw [hm]
    refine ⟨some (.int (prI y)), M, ev_price hM h5 hs y1, hT, Frm.refl M, _, List.mem_cons_self .., ⟨⟨_, rfl, r1, r2⟩, fun q hq => (by cases hq), [], trivial, fun f hf => ?_, fun q hq => (by cases hq)⟩, cn_D rfl⟩
    cases List.mem_singleton.mp hf
    exact ⟨[c.toInt, (prI y).toInt], Two.mk ⟨1 * c.toInt + 0, rfl, by show c.toInt = 1 * c.toInt + 0 + 0; omega⟩ (Two.mk ⟨1 * (prI y).toInt + 0, rfl, by show (prI y).toInt = 1 * (prI y).toInt + 0 + 0; omega⟩ trivial), (show FL0 66 _ M from ⟨1, l, y, c, rfl, hs, y1⟩)⟩
  · exact ha.2.2.elim
