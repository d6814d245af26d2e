/-! WRITING INTO A ROW OF REFERENCES -/
noncomputable def wO (M : Mem) (a j r : Nat) : Mem := match gNth M a with
  | some (.inl (kd, .inr (.inr l))) => gPut M a (.inl (kd, .inr (.inr (gPut l j (some r)))))
  | _ => M
section WO
variable {M M' : Mem} {a b g g2 kd n j i k r : Nat}
theorem wO_eq {l : List (Option Nat)} (h : gNth M a = some (.inl (kd, .inr (.inr l)))) : wO M a j r = gPut M a (.inl (kd, .inr (.inr (gPut l j (some r))))) := by
  unfold wO
  rw [h]
theorem fV_wO : fV (wO M a j r) b k = fV M b k := by
  unfold wO
  split
  · rename_i hM
    exact fV_put (fun c vs q => by cases q) (fun c vs q => by rw [hM] at q; cases q)
  · rfl
theorem fI_wO : zI (wO M a j r) b k = zI M b k := by unfold zI; rw [fV_wO]
theorem fR_wO : fR (wO M a j r) b k = fR M b k := by unfold fR; rw [fV_wO]
theorem fL_wO : fL (wO M a j r) b k = fL M b k := by unfold fL; rw [fV_wO]
theorem rwL_wO : zrw (wO M a j r) b = zrw M b := by
  unfold wO
  split
  · rename_i hM
    unfold zrw
    rw [nth_put]
    by_cases hb : b = a ∧ a < M.length
    · rw [if_pos hb, hb.1, hM]
    · rw [if_neg hb]
  · rfl
theorem rN_wO : rN (wO M a j r) b i = rN M b i := by unfold rN; rw [rwL_wO]
theorem roL_wO_ne (h : b ≠ a) : roL (wO M a j r) b = roL M b := by
  unfold wO
  split
  · unfold roL
    rw [nth_put, if_neg (fun q => h q.1)]
  · rfl
theorem roL_wO_eq (hS : SH M) (ha : gNth sT a = some g) (hB : rrB g kd n g2 = true) : roL (wO M a j r) a = gPut (roL M a) j (some r) := by
  obtain ⟨h1, h2, _⟩ := hS.ror ha hB
  rw [wO_eq h1]
  unfold roL
  have hlt : a < M.length := by
    exact gNth_lt _ _ _ h1
  rw [nth_put, if_pos ⟨rfl, hlt⟩]
theorem oN_wO_ne (hS : SH M) (ha : gNth sT a = some g) (hB : rrB g kd n g2 = true) (h : i ≠ j) : oN (wO M a j r) a i = oN M a i := by
  unfold oN
  rw [roL_wO_eq hS ha hB, nth_put, if_neg (fun q => h q.1)]
theorem oN_wO_eq (hS : SH M) (ha : gNth sT a = some g) (hB : rrB g kd n g2 = true) (h : j < n) : oN (wO M a j r) a j = r := by
  unfold oN
  obtain ⟨h1, h2, _⟩ := hS.ror ha hB
  rw [roL_wO_eq hS ha hB, nth_put, if_pos ⟨rfl, by omega⟩]
  rfl
theorem SH.ko (hS : SH M) (ha : gNth sT a = some g) (hB : rrB g kd n g2 = true) (hr : gNth sT r = some g2) : SH (wO M a j r) := by
  obtain ⟨h1, h2, h3⟩ := hS.ror ha hB
  rw [wO_eq h1]
  refine hS.put (fun g' t h4 h5 => ?_)
  cases ha.symm.trans h4
  unfold rrB at hB
  rw [h5] at hB
  rcases t with ⟨ci, fs⟩ | ⟨q, m, u⟩
  · cases hB
  · rcases u with sg | h
    · cases hB
    · obtain ⟨b0, hB⟩ := and_t hB
      obtain ⟨b1, hB⟩ := and_t hB
      obtain ⟨b2, b3⟩ := and_t hB
      cases Nat.eq_of_beq_eq_true b1
      cases Nat.eq_of_beq_eq_true b2
      cases Nat.eq_of_beq_eq_true b3
      have hx : ∃ l : List (Option Nat), (Sum.inl (kd, .inr (.inr (gPut (roL M a) j (some r)))) : AE) = .inl (kd, .inr (.inr l)) ∧ l.length = n ∧ ∀ i x, gNth l i = some x → ∃ a, x = some a ∧ gNth sT a = some g2 := by
        refine ⟨_, rfl, by rw [put_len]; exact h2, fun i x hx => ?_⟩
        rw [nth_put] at hx
        by_cases hi : i = j ∧ j < (roL M a).length
        · rw [if_pos hi] at hx
          cases hx
          exact ⟨r, rfl, hr⟩
        · rw [if_neg hi] at hx
          have hi2 : i < n := by
            rw [← h2]
            exact gNth_lt _ _ _ hx
          obtain ⟨q1, q2⟩ := h3 i hi2
          rw [q1] at hx
          cases hx
          exact ⟨_, rfl, q2⟩
      have hq : kd ≠ 2 := by
        rintro rfl
        cases b0
      match kd, hq, hx with
      | 0, _, h => exact h
      | 1, _, h => exact h
      | _ + 3, _, h => exact h
theorem SQ.ko (h : SQ M) (ha : gNth sT a = some g) (hB : rrB g kd n g2 = true) (hr : gNth sT r = some g2) : SQ (wO M a j r) := ⟨h.1.ko ha hB hr, h.2.mv (fun b i r q => by rw [fV_wO]; exact q)⟩
variable {d me pc o np kf mx c s : Nat} {y : MethodName} {cc : ByteArray} {ret : Option FieldType} {tab : List (Nat × Nat × Instr)} {ls : Lo} {st : List Value} {v : Option Value}
theorem Ev.aas {z : Int32} (hrow : gNth mRs me = some (o, y, cc, mx, ret, np, kf, tab)) (hl : gLook tab pc = some (4, .aastore)) (hS : SH M) (ha : gNth sT a = some g) (hB : rrB g kd n g2 = true) (h : Ev none d me pc ls (.ref r :: .int z :: .ref a :: st) M v M' c s) : (0 ≤ z.toInt ∧ z.toInt < (n : Int)) ∧ Ev none d me (pc + 1) ls st (wO M a z.toNatClampNeg r) v M' c s := by
  obtain ⟨st1, M1, e, h⟩ := Ev.put hrow hl h
  obtain ⟨h1, h2, h3⟩ := hS.ror ha hB
  have e : (match gNth M a, gNth M r with
      | some (.inl (t, .inr (.inr l))), some (.inr (c, _)) => match gAt l z with
        | some _ => cond (Nat.beq (gEl t) c) (some (st, gPut M a (.inl (t, .inr (.inr (gPut l z.toNatClampNeg (some r))))))) none
        | none => none
      | _, _ => none) = some (st1, M1) := e
  rw [h1] at e
  cases hr : gNth M r with
  | none => rw [hr] at e; cases e
  | some w =>
    rw [hr] at e
    rcases w with w | ⟨c1, vs⟩
    · cases e
    · have e : (match gAt (roL M a) z with
        | some _ => cond (Nat.beq (gEl kd) c1) (some (st, gPut M a (.inl (kd, .inr (.inr (gPut (roL M a) z.toNatClampNeg (some r))))))) none
        | none => none) = some (st1, M1) := e
      cases hg : gAt (roL M a) z with
      | none => rw [hg] at e; cases e
      | some x2 =>
        rw [hg] at e
        obtain ⟨-, e⟩ := cond_inv e
        cases e
        obtain ⟨q1, q2, q3⟩ := gat_ino hg
        rw [h2] at q2
        rw [wO_eq h1]
        exact ⟨⟨q1, q2⟩, h⟩
end WO
