/-! BY HAND: walkers of the reference are laid one place down: the row s keeps its ranges -/
noncomputable def shB : Bool := match gNth sG 63 with
  | some (.inr (1, 2314, .inl sg)) => (List.range 354).all (fun j => match sgAt sg (158 + j), sgAt sg (164 + j) with
    | some p, some q => decide (p.1 ≤ q.1) && decide (q.2 ≤ p.2)
    | _, _ => false) && (List.range 360).all (fun j => match sgAt sg (158 + j) with
    | some p => decide (p.1 ≤ 0) && decide (0 ≤ p.2)
    | _ => false)
  | _ => false
set_option maxRecDepth 100000 in
theorem shB_ok : shB = true := by decide +kernel
theorem TM.s_put {M : Mem} (hT : TM sT sG M) {l : List Int32} (hM : gNth M 635 = some (.inl (1, .inl l))) {i : Nat} {y : Int32} (h1 : 158 ≤ i) (h : (i < 512 ∧ gNth l (i + 6) = some y) ∨ (i < 518 ∧ y = 0)) : TM sT sG (gPut M 635 (.inl (1, .inl (gPut l i y)))) := by
  have hB := shB_ok
  unfold shB at hB
  split at hB
  rotate_left
  · cases hB
  rename_i sg e
  obtain ⟨b1, b2⟩ := and_t hB
  obtain ⟨e1, e2, e3⟩ := hT.at sT_635 e
  rw [hM] at e2
  cases e2
  obtain ⟨l', e4, l1, l2⟩ := ct_int (by decide) e3
  cases e4
  refine hT.put (fun g2 t w1 w2 => ?_)
  rw [sT_635] at w1
  cases w1
  rw [e] at w2
  cases w2
  refine ct_mk (by decide) (by rw [put_len]; exact l1) (fun j x hj => ?_)
  rw [nth_put] at hj
  split at hj
  · rename_i hc
    cases hj
    obtain ⟨rfl, _⟩ := hc
    rcases h with ⟨h2, h3⟩ | ⟨h2, rfl⟩
    · obtain ⟨q, q1, q2, q3⟩ := l2 _ _ h3
      have h4 := List.all_eq_true.mp b1 (j - 158) (List.mem_range.mpr (by omega))
      have a1 : 158 + (j - 158) = j := by omega
      have a2 : 164 + (j - 158) = j + 6 := by omega
      rw [a1, a2, q1] at h4
      cases hp : sgAt sg j with
      | none => rw [hp] at h4; cases h4
      | some p => ?_
      rw [hp] at h4
      obtain ⟨h5, h6⟩ := and_t h4
      have h5 := of_decide_eq_true h5
      have h6 := of_decide_eq_true h6
      exact ⟨p, rfl, by omega, by omega⟩
    · have h4 := List.all_eq_true.mp b2 (j - 158) (List.mem_range.mpr (by omega))
      have a1 : 158 + (j - 158) = j := by omega
      rw [a1] at h4
      cases hp : sgAt sg j with
      | none => rw [hp] at h4; cases h4
      | some p => ?_
      rw [hp] at h4
      obtain ⟨h5, h6⟩ := and_t h4
      exact ⟨p, rfl, of_decide_eq_true h5, of_decide_eq_true h6⟩
  · exact l2 j x hj
