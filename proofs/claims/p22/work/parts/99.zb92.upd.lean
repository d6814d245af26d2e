/-! WHAT A WRITE CHANGES -/
section UPD
variable {M : Mem} {a b g g2 k i j ci n kd : Nat} {x : Int32} {z : Int64}
theorem fV_put {e : AE} (h : ∀ c vs, e ≠ .inr (c, vs)) (h2 : ∀ c vs, gNth M a ≠ some (.inr (c, vs))) : fV (gPut M a e) b k = fV M b k := by
  unfold fV
  rw [nth_put]
  by_cases hb : b = a ∧ a < M.length
  · rw [if_pos hb, hb.1]
    rcases e with q | ⟨c, vs⟩
    · dsimp only
      cases hM : gNth M a with
      | none => rfl
      | some e2 =>
        rcases e2 with q2 | ⟨c, vs⟩
        · rfl
        · exact absurd hM (h2 c vs)
    · exact absurd rfl (h c vs)
  · rw [if_neg hb]
theorem fV_wI : fV (wI M a j x) b k = fV M b k := by
  unfold wI
  split
  · rename_i kd l hM
    exact fV_put (fun c vs q => by cases q) (fun c vs q => by rw [hM] at q; cases q)
  · rfl
theorem fI_wI : zI (wI M a j x) b k = zI M b k := by unfold zI; rw [fV_wI]
theorem fR_wI : fR (wI M a j x) b k = fR M b k := by unfold fR; rw [fV_wI]
theorem fL_wI : fL (wI M a j x) b k = fL M b k := by unfold fL; rw [fV_wI]
theorem fV_obj {c : Nat} {vs : List Value} {v : Value} (hM : gNth M a = some (.inr (c, vs))) : fV (gPut M a (.inr (c, gPut vs k v))) b i = if b = a ∧ i = k ∧ k < vs.length then some v else fV M b i := by
  unfold fV
  rw [nth_put]
  have hl := gNth_lt _ _ _ hM
  by_cases hb : b = a
  · subst hb
    rw [if_pos ⟨rfl, hl⟩, hM]
    dsimp only
    rw [nth_put]
    by_cases hi : i = k ∧ k < vs.length
    · rw [if_pos hi, if_pos ⟨rfl, hi⟩]
    · rw [if_neg hi, if_neg (fun q => hi q.2)]
  · rw [if_neg (fun q => hb q.1), if_neg (fun q => hb q.1)]
theorem fV_wF_ne (h : ¬ (b = a ∧ i = k)) : fV (wF M a k x) b i = fV M b i := by
  unfold wF
  split
  · rename_i c vs hM
    split
    · rw [fV_obj hM, if_neg (fun q => h ⟨q.1, q.2.1⟩)]
    · rfl
  · rfl
theorem fI_wF_ne (h : ¬ (b = a ∧ i = k)) : zI (wF M a k x) b i = zI M b i := by unfold zI; rw [fV_wF_ne h]
theorem fL_wF : fL (wF M a k x) b i = fL M b i := by
  by_cases h : b = a ∧ i = k
  · obtain ⟨rfl, rfl⟩ := h
    unfold wF
    split
    · rename_i c vs hM
      split
      · rename_i y hy
        unfold fL
        have h1 : fV M b i = some (.int y) := by
          unfold fV
          rw [hM]
          exact hy
        rw [fV_obj hM, if_pos ⟨rfl, rfl, gNth_lt _ _ _ hy⟩, h1]
      · rfl
    · rfl
  · unfold fL
    rw [fV_wF_ne h]
theorem fR_wF : fR (wF M a k x) b i = fR M b i := by
  by_cases h : b = a ∧ i = k
  · obtain ⟨rfl, rfl⟩ := h
    unfold wF
    split
    · rename_i c vs hM
      split
      · rename_i y hy
        unfold fR
        have h1 : fV M b i = some (.int y) := by
          unfold fV
          rw [hM]
          exact hy
        rw [fV_obj hM, if_pos ⟨rfl, rfl, gNth_lt _ _ _ hy⟩, h1]
      · rfl
    · rfl
  · unfold fR
    rw [fV_wF_ne h]
theorem fV_wF_ref {r : Nat} (h : fV M b i = some (.ref r)) : fV (wF M a k x) b i = some (.ref r) := by
  by_cases hb : b = a ∧ i = k
  · obtain ⟨rfl, rfl⟩ := hb
    unfold wF
    split
    · rename_i c vs hM
      split
      · rename_i y hy
        unfold fV at h
        rw [hM] at h
        cases h.symm.trans hy
      · exact h
    · exact h
  · rw [fV_wF_ne hb]
    exact h
theorem fI_wF_eq (hS : SH M) (ha : gNth sT a = some g) (hB : iB g ci k = true) : zI (wF M a k x) a k = x := by
  obtain ⟨vs, h1, h2⟩ := hS.fi ha hB
  have hw : wF M a k x = gPut M a (.inr (ci, gPut vs k (.int x))) := by
    unfold wF
    rw [h1]
    dsimp only
    rw [h2]
  unfold zI
  rw [hw, fV_obj h1, if_pos ⟨rfl, rfl, gNth_lt _ _ _ h2⟩]
theorem fV_wG_ne (h : ¬ (b = a ∧ i = k)) : fV (wG M a k z) b i = fV M b i := by
  unfold wG
  split
  · rename_i c vs hM
    split
    · rw [fV_obj hM, if_neg (fun q => h ⟨q.1, q.2.1⟩)]
    · rfl
  · rfl
theorem fV_wG_ref {r : Nat} (h : fV M b i = some (.ref r)) : fV (wG M a k z) b i = some (.ref r) := by
  by_cases hb : b = a ∧ i = k
  · obtain ⟨rfl, rfl⟩ := hb
    unfold wG
    split
    · rename_i c vs hM
      split
      · rename_i y hy
        unfold fV at h
        rw [hM] at h
        cases h.symm.trans hy
      · exact h
    · exact h
  · rw [fV_wG_ne hb]
    exact h
theorem fI_wG : zI (wG M a k z) b i = zI M b i := by
  by_cases h : b = a ∧ i = k
  · obtain ⟨rfl, rfl⟩ := h
    unfold wG
    split
    · rename_i c vs hM
      split
      · rename_i y hy
        unfold zI
        have h1 : fV M b i = some (.long y) := by
          unfold fV
          rw [hM]
          exact hy
        rw [fV_obj hM, if_pos ⟨rfl, rfl, gNth_lt _ _ _ hy⟩, h1]
      · rfl
    · rfl
  · unfold zI
    rw [fV_wG_ne h]
theorem fR_wG : fR (wG M a k z) b i = fR M b i := by
  by_cases h : b = a ∧ i = k
  · obtain ⟨rfl, rfl⟩ := h
    unfold wG
    split
    · rename_i c vs hM
      split
      · rename_i y hy
        unfold fR
        have h1 : fV M b i = some (.long y) := by
          unfold fV
          rw [hM]
          exact hy
        rw [fV_obj hM, if_pos ⟨rfl, rfl, gNth_lt _ _ _ hy⟩, h1]
      · rfl
    · rfl
  · unfold fR
    rw [fV_wG_ne h]
theorem fL_wG_eq (hS : SH M) (ha : gNth sT a = some g) (hB : lB g ci k = true) : fL (wG M a k z) a k = z := by
  obtain ⟨vs, h1, h2⟩ := hS.fl ha hB
  have hw : wG M a k z = gPut M a (.inr (ci, gPut vs k (.long z))) := by
    unfold wG
    rw [h1]
    dsimp only
    rw [h2]
  unfold fL
  rw [hw, fV_obj h1, if_pos ⟨rfl, rfl, gNth_lt _ _ _ h2⟩]
/-! rows -/
theorem rwL_wF : zrw (wF M a k x) b = zrw M b := by
  unfold wF
  split
  · rename_i c vs hM
    split
    · unfold zrw
      rw [nth_put]
      by_cases hb : b = a ∧ a < M.length
      · rw [if_pos hb, hb.1, hM]
      · rw [if_neg hb]
    · rfl
  · rfl
theorem rwL_wG : zrw (wG M a k z) b = zrw M b := by
  unfold wG
  split
  · rename_i c vs hM
    split
    · unfold zrw
      rw [nth_put]
      by_cases hb : b = a ∧ a < M.length
      · rw [if_pos hb, hb.1, hM]
      · rw [if_neg hb]
    · rfl
  · rfl
theorem rwL_wR {r : Nat} : zrw (wR M a k r) b = zrw M b := by
  unfold wR
  split
  · rename_i hM
    unfold zrw
    rw [nth_put]
    by_cases hb : b = a ∧ a < M.length
    · rw [if_pos hb, hb.1, hM]
    · rw [if_neg hb]
  · rfl
theorem rwL_wI_ne (h : b ≠ a) : zrw (wI M a j x) b = zrw M b := by
  unfold wI
  split
  · unfold zrw
    rw [nth_put, if_neg (fun q => h q.1)]
  · rfl
theorem rwL_wI_eq : zrw (wI M a j x) a = gPut (zrw M a) j x := by
  unfold wI
  split
  · rename_i kd l hM
    have e : zrw M a = l := by
      unfold zrw
      rw [hM]
    rw [e]
    unfold zrw
    rw [nth_put, if_pos ⟨rfl, gNth_lt _ _ _ hM⟩]
  · rename_i hM
    have e : zrw M a = [] := by
      unfold zrw
      split
      · rename_i kd l h2
        exact absurd h2 (hM kd l)
      · rfl
    rw [e]
    rfl
theorem rN_wF : rN (wF M a k x) b j = rN M b j := by unfold rN; rw [rwL_wF]
theorem rN_wG : rN (wG M a k z) b j = rN M b j := by unfold rN; rw [rwL_wG]
theorem rN_wR {r : Nat} : rN (wR M a k r) b j = rN M b j := by unfold rN; rw [rwL_wR]
theorem rN_wI_ne (h : ¬ (b = a ∧ i = j)) : rN (wI M a j x) b i = rN M b i := by
  by_cases hb : b = a
  · subst hb
    unfold rN
    rw [rwL_wI_eq, nth_put, if_neg (fun q => h ⟨rfl, q.1⟩)]
  · unfold rN
    rw [rwL_wI_ne hb]
theorem rN_wI_eq (h : j < (zrw M a).length) : rN (wI M a j x) a j = x := by
  unfold rN
  rw [rwL_wI_eq, nth_put, if_pos ⟨rfl, h⟩]
  rfl
/-! the shape stays -/
theorem SH.put (hS : SH M) {e : AE} (h : ∀ g t, gNth sT a = some g → gNth sG g = some t → shC t e) : SH (gPut M a e) := by
  refine ⟨by rw [put_len]; exact hS.1, fun b g t h1 h2 => ?_⟩
  rw [nth_put]
  by_cases hb : b = a ∧ a < M.length
  · rw [if_pos hb]
    rw [hb.1] at h1
    exact ⟨e, rfl, h g t h1 h2⟩
  · rw [if_neg hb]
    exact hS.2 b g t h1 h2
theorem SH.ki (hS : SH M) : SH (wI M a j x) := by
  unfold wI
  split
  · rename_i kd l hM
    refine hS.put (fun g t h1 h2 => ?_)
    obtain ⟨e, e1, e2⟩ := hS.2 a g t h1 h2
    cases hM.symm.trans e1
    rcases t with ⟨ci, fs⟩ | ⟨q, n, u⟩
    · obtain ⟨vs, h3, _⟩ := e2
      cases h3
    · rcases u with sg | g2
      · match q, e2 with
        | 0, e2 => obtain ⟨l2, h3, h4⟩ := e2; cases h3; exact ⟨_, rfl, by rw [put_len]; exact h4⟩
        | 1, e2 => obtain ⟨l2, h3, h4⟩ := e2; cases h3; exact ⟨_, rfl, by rw [put_len]; exact h4⟩
        | 2, e2 => obtain ⟨l2, h3, h4⟩ := e2; cases h3
        | q + 3, e2 => obtain ⟨l2, h3, h4⟩ := e2; cases h3; exact ⟨_, rfl, by rw [put_len]; exact h4⟩
      · match q, e2 with
        | 0, e2 => obtain ⟨l2, h3, h4⟩ := e2; cases h3
        | 1, e2 => obtain ⟨l2, h3, h4⟩ := e2; cases h3
        | 2, e2 => obtain ⟨l2, h3, h4⟩ := e2; cases h3
        | q + 3, e2 => obtain ⟨l2, h3, h4⟩ := e2; cases h3
  · exact hS
theorem SH.kf (hS : SH M) : SH (wF M a k x) := by
  unfold wF
  split
  · rename_i c vs hM
    split
    · rename_i y hy
      refine hS.put (fun g t h1 h2 => ?_)
      obtain ⟨e, e1, e2⟩ := hS.2 a g t h1 h2
      cases hM.symm.trans e1
      rcases t with ⟨ci, fs⟩ | ⟨q, n, u⟩
      · obtain ⟨vs2, h3, h4, h5⟩ := e2
        cases h3
        refine ⟨_, rfl, by rw [put_len]; exact h4, fun k2 ft hk => ?_⟩
        obtain ⟨w, w1, w2⟩ := h5 k2 ft hk
        rw [nth_put]
        by_cases hk2 : k2 = k ∧ k < vs.length
        · rw [if_pos hk2]
          rw [hk2.1] at w1
          cases hy.symm.trans w1
          refine ⟨_, rfl, ?_⟩
          rcases ft with p | m
          · exact ⟨x, rfl⟩
          · match m, w2 with
            | 0, w2 => obtain ⟨z, w2⟩ := w2; cases w2
            | m + 1, w2 =>
              rcases w2 with ⟨r, w2, _⟩ | ⟨_, w2⟩
              · cases w2
              · cases w2
        · rw [if_neg hk2]
          exact ⟨w, w1, w2⟩
      · exfalso
        rcases u with sg | g2
        · match q, e2 with
          | 0, e2 => obtain ⟨l2, h3, _⟩ := e2; cases h3
          | 1, e2 => obtain ⟨l2, h3, _⟩ := e2; cases h3
          | 2, e2 => obtain ⟨l2, h3, _⟩ := e2; cases h3
          | q + 3, e2 => obtain ⟨l2, h3, _⟩ := e2; cases h3
        · match q, e2 with
          | 0, e2 => obtain ⟨l2, h3, _⟩ := e2; cases h3
          | 1, e2 => obtain ⟨l2, h3, _⟩ := e2; cases h3
          | 2, e2 => obtain ⟨l2, h3, _⟩ := e2; cases h3
          | q + 3, e2 => obtain ⟨l2, h3, _⟩ := e2; cases h3
    · exact hS
  · exact hS
theorem SH.kg (hS : SH M) : SH (wG M a k z) := by
  unfold wG
  split
  · rename_i c vs hM
    split
    · rename_i y hy
      refine hS.put (fun g t h1 h2 => ?_)
      obtain ⟨e, e1, e2⟩ := hS.2 a g t h1 h2
      cases hM.symm.trans e1
      rcases t with ⟨ci, fs⟩ | ⟨q, n, u⟩
      · obtain ⟨vs2, h3, h4, h5⟩ := e2
        cases h3
        refine ⟨_, rfl, by rw [put_len]; exact h4, fun k2 ft hk => ?_⟩
        obtain ⟨w, w1, w2⟩ := h5 k2 ft hk
        rw [nth_put]
        by_cases hk2 : k2 = k ∧ k < vs.length
        · rw [if_pos hk2]
          rw [hk2.1] at w1
          cases hy.symm.trans w1
          refine ⟨_, rfl, ?_⟩
          rcases ft with p | m
          · obtain ⟨y2, w2⟩ := w2
            cases w2
          · match m, w2 with
            | 0, w2 => exact ⟨z, rfl⟩
            | m + 1, w2 =>
              rcases w2 with ⟨r, w2, _⟩ | ⟨_, w2⟩
              · cases w2
              · cases w2
        · rw [if_neg hk2]
          exact ⟨w, w1, w2⟩
      · exfalso
        rcases u with sg | g2
        · match q, e2 with
          | 0, e2 => obtain ⟨l2, h3, _⟩ := e2; cases h3
          | 1, e2 => obtain ⟨l2, h3, _⟩ := e2; cases h3
          | 2, e2 => obtain ⟨l2, h3, _⟩ := e2; cases h3
          | q + 3, e2 => obtain ⟨l2, h3, _⟩ := e2; cases h3
        · match q, e2 with
          | 0, e2 => obtain ⟨l2, h3, _⟩ := e2; cases h3
          | 1, e2 => obtain ⟨l2, h3, _⟩ := e2; cases h3
          | 2, e2 => obtain ⟨l2, h3, _⟩ := e2; cases h3
          | q + 3, e2 => obtain ⟨l2, h3, _⟩ := e2; cases h3
    · exact hS
  · exact hS
theorem FX.mv {M' : Mem} (h : FX M) (hf : ∀ b i r, fV M b i = some (.ref r) → fV M' b i = some (.ref r)) : FX M' :=
  ⟨fun t ht k hk => hf _ _ _ (h.1 t ht k hk), fun a ha => ⟨fun k hk => hf _ _ _ ((h.2 a ha).1 k hk), hf _ _ _ (h.2 a ha).2.1, hf _ _ _ (h.2 a ha).2.2.1, hf _ _ _ (h.2 a ha).2.2.2⟩⟩
theorem SQ.ki (h : SQ M) : SQ (wI M a j x) := ⟨h.1.ki, h.2.mv (fun b i r q => by rw [fV_wI]; exact q)⟩
theorem SQ.kf (h : SQ M) : SQ (wF M a k x) := ⟨h.1.kf, h.2.mv (fun b i r q => fV_wF_ref q)⟩
theorem SQ.kg (h : SQ M) : SQ (wG M a k z) := ⟨h.1.kg, h.2.mv (fun b i r q => fV_wG_ref q)⟩
theorem fV_wR_ne {r : Nat} (h : ¬ (b = a ∧ i = k)) : fV (wR M a k r) b i = fV M b i := by
  unfold wR
  split
  · rename_i hM
    rw [fV_obj hM, if_neg (fun q => h ⟨q.1, q.2.1⟩)]
  · rfl
theorem fI_wR_ne {r : Nat} (h : ¬ (b = a ∧ i = k)) : zI (wR M a k r) b i = zI M b i := by unfold zI; rw [fV_wR_ne h]
theorem fR_wR_ne {r : Nat} (h : ¬ (b = a ∧ i = k)) : fR (wR M a k r) b i = fR M b i := by unfold fR; rw [fV_wR_ne h]
noncomputable def kB (g ci k : Nat) : Bool := match gNth sG g with
  | some (.inl (c, fs)) => Nat.beq c ci && Nat.blt k fs.length
  | _ => false
theorem fR_wR_eq {r : Nat} (hS : SH M) (ha : gNth sT a = some g) (hB : kB g ci k = true) : fR (wR M a k r) a k = r := by
  unfold kB at hB
  split at hB
  rotate_left
  · cases hB
  rename_i c fs e
  obtain ⟨b1, b2⟩ := and_t hB
  cases Nat.eq_of_beq_eq_true b1
  obtain ⟨_, e1, vs, rfl, e2, _⟩ := hS.2 a g _ ha e
  have hk : k < vs.length := by
    rw [e2]
    exact Nat.le_of_ble_eq_true b2
  unfold fR
  have hw : wR M a k r = gPut M a (.inr (ci, gPut vs k (.ref r))) := by
    unfold wR
    rw [e1]
  rw [hw, fV_obj e1, if_pos ⟨rfl, rfl, hk⟩]
noncomputable def rB (g ci k g2 : Nat) : Bool := match gNth sG g with
  | some (.inl (c, fs)) => Nat.beq c ci && (match gNth fs k with
    | some (.inr n) => Nat.beq n (2 * g2 + 1) || Nat.beq n (2 * g2 + 2)
    | _ => false)
  | _ => false
theorem SH.kr {r : Nat} (hS : SH M) (ha : gNth sT a = some g) (hB : rB g ci k g2 = true) (hr : gNth sT r = some g2) : SH (wR M a k r) := by
  unfold wR
  split
  · rename_i c vs hM
    refine hS.put (fun g' t h1 h2 => ?_)
    cases ha.symm.trans h1
    unfold rB at hB
    rw [h2] at hB
    rcases t with ⟨ci', fs⟩ | ⟨q, n, u⟩
    · obtain ⟨b1, b2⟩ := and_t hB
      obtain ⟨e, e1, e2⟩ := hS.2 a g _ ha h2
      cases hM.symm.trans e1
      obtain ⟨vs2, h3, h4, h5⟩ := e2
      cases h3
      refine ⟨_, rfl, by rw [put_len]; exact h4, fun k2 ft hk => ?_⟩
      obtain ⟨w, w1, w2⟩ := h5 k2 ft hk
      rw [nth_put]
      by_cases hk2 : k2 = k ∧ k < vs.length
      · rw [if_pos hk2]
        refine ⟨_, rfl, ?_⟩
        rw [hk2.1] at hk
        rw [hk] at b2
        rcases ft with p | m
        · cases b2
        · have b2 : (Nat.beq m (2 * g2 + 1) || Nat.beq m (2 * g2 + 2)) = true := b2
          rw [Bool.or_eq_true] at b2
          have hm : ∃ m', m = m' + 1 ∧ m' / 2 = g2 := by
            rcases b2 with b2 | b2
            · exact ⟨2 * g2, Nat.eq_of_beq_eq_true b2, by omega⟩
            · exact ⟨2 * g2 + 1, Nat.eq_of_beq_eq_true b2, by omega⟩
          obtain ⟨m', rfl, hm⟩ := hm
          exact Or.inl ⟨r, rfl, by rw [hm]; exact hr⟩
      · rw [if_neg hk2]
        exact ⟨w, w1, w2⟩
    · cases hB
  · exact hS
theorem SQ.kr {r : Nat} (h : SQ M) (ha : gNth sT a = some g) (hB : rB g ci k g2 = true) (hr : gNth sT r = some g2) (h1 : ∀ t ∈ fxT, t ≠ a) (h2 : ∀ t ∈ fxA, t ≠ a) : SQ (wR M a k r) :=
  ⟨h.1.kr ha hB hr, ⟨fun t ht k2 hk => by rw [fV_wR_ne (fun q => h1 t ht q.1)]; exact h.2.1 t ht k2 hk, fun t ht => by
    refine ⟨fun k2 hk => ?_, ?_, ?_, ?_⟩
    · rw [fV_wR_ne (fun q => h2 t ht q.1)]; exact (h.2.2 t ht).1 k2 hk
    · rw [fV_wR_ne (fun q => h2 t ht q.1)]; exact (h.2.2 t ht).2.1
    · rw [fV_wR_ne (fun q => h2 t ht q.1)]; exact (h.2.2 t ht).2.2.1
    · rw [fV_wR_ne (fun q => h2 t ht q.1)]; exact (h.2.2 t ht).2.2.2⟩⟩
end UPD
