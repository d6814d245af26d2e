/-! WHAT THE LAYOUT TELLS of any object's field, of any row of references -/
noncomputable def fdB (g ci k g2 : Nat) : Bool := match gNth sG g with
  | some (.inl (c, fs)) => Nat.beq c ci && (match gNth fs k with
    | some (.inr n) => Nat.beq n (2 * g2 + 1)
    | _ => false)
  | _ => false
noncomputable def fiB (g ci k : Nat) (lo hi : Int) : Bool := match gNth sG g with
  | some (.inl (c, fs)) => Nat.beq c ci && (match gNth fs k with
    | some (.inl (a, b)) => decide (a = lo) && decide (b = hi)
    | _ => false)
  | _ => false
noncomputable def rrB (g kd n g2 : Nat) : Bool := match gNth sG g with
  | some (.inr (q, m, .inr h)) => !Nat.beq q 2 && (Nat.beq q kd && (Nat.beq m n && Nat.beq h g2))
  | _ => false
theorem TM.fref {M : Mem} {a g ci k g2 : Nat} (hT : TM sT sG M) (ha : gNth sT a = some g) (hB : fdB g ci k g2 = true) : ∃ vs b, gNth M a = some (.inr (ci, vs)) ∧ gNth vs k = some (.ref b) ∧ gNth sT b = some g2 := by
  unfold fdB at hB
  split at hB
  rotate_left
  · cases hB
  rename_i c fs e
  obtain ⟨b1, b2⟩ := and_t hB
  cases Nat.eq_of_beq_eq_true b1
  obtain ⟨vs, e1, _, e3⟩ := hT.obj ha e
  split at b2
  rotate_left
  · cases b2
  rename_i n e2
  cases Nat.eq_of_beq_eq_true b2
  obtain ⟨v, v1, v2⟩ := e3 k _ e2
  rcases v2 with ⟨b, rfl, hb⟩ | ⟨hk, _⟩
  · have hb : gNth sT b = some (2 * g2 / 2) := hb
    rw [Nat.mul_div_cancel_left _ (by decide : 0 < 2)] at hb
    exact ⟨vs, b, e1, v1, hb⟩
  · have hk : 2 * g2 % 2 = 1 := hk
    omega
theorem TM.fnum {M : Mem} {a g ci k : Nat} {lo hi : Int} (hT : TM sT sG M) (ha : gNth sT a = some g) (hB : fiB g ci k lo hi = true) : ∃ vs y, gNth M a = some (.inr (ci, vs)) ∧ gNth vs k = some (.int y) ∧ k < vs.length ∧ lo ≤ y.toInt ∧ y.toInt ≤ hi ∧ ∀ z : Int32, lo ≤ z.toInt → z.toInt ≤ hi → TM sT sG (gPut M a (.inr (ci, gPut vs k (.int z)))) := by
  unfold fiB at hB
  split at hB
  rotate_left
  · cases hB
  rename_i c fs e
  obtain ⟨b1, b2⟩ := and_t hB
  cases Nat.eq_of_beq_eq_true b1
  obtain ⟨vs, e1, _, e3⟩ := hT.obj ha e
  split at b2
  rotate_left
  · cases b2
  rename_i x y e2
  obtain ⟨b3, b4⟩ := and_t b2
  cases of_decide_eq_true b3
  cases of_decide_eq_true b4
  obtain ⟨v, v1, z, rfl, z1, z2⟩ := e3 k _ e2
  exact ⟨vs, z, e1, v1, gNth_lt _ _ _ v1, z1, z2, fun z z1 z2 => hT.oput ha e e1 e2 ⟨z, rfl, z1, z2⟩⟩
theorem TM.rref {M : Mem} {a g kd n g2 : Nat} (hT : TM sT sG M) (ha : gNth sT a = some g) (hB : rrB g kd n g2 = true) : ∃ l, gNth M a = some (.inl (kd, .inr (.inr l))) ∧ l.length = n ∧ (∀ j x, gNth l j = some x → ∃ b, x = some b ∧ gNth sT b = some g2) ∧ ∀ i b, gNth sT b = some g2 → TM sT sG (gPut M a (.inl (kd, .inr (.inr (gPut l i (some b)))))) := by
  unfold rrB at hB
  split at hB
  rotate_left
  · cases hB
  rename_i q m h e
  obtain ⟨b0, hB⟩ := and_t hB
  obtain ⟨b1, hB⟩ := and_t hB
  obtain ⟨b2, b3⟩ := and_t hB
  cases Nat.eq_of_beq_eq_true b1
  cases Nat.eq_of_beq_eq_true b2
  cases Nat.eq_of_beq_eq_true b3
  have hq : kd ≠ 2 := by
    rintro rfl
    cases b0
  obtain ⟨ee, e1, e2⟩ := hT.at ha e
  obtain ⟨l, rfl, l1, l2⟩ := ct_ref hq e2
  refine ⟨l, e1, l1, l2, fun i b hb => hT.put (fun g3 t q1 q2 => ?_)⟩
  rw [ha] at q1
  cases q1
  rw [e] at q2
  cases q2
  refine ct_mkr hq (by rw [put_len]; exact l1) (fun j x hj => ?_)
  rw [nth_put] at hj
  split at hj
  · cases hj
    exact ⟨b, rfl, hb⟩
  · exact l2 j x hj
