/-! PURE: the frame, second half -/
theorem sh_ref (k a : Nat) : shV k (.ref a) = .ref (k + a) := rfl
section EMC
variable {X Y : Mem} {sc : Sta}
set_option maxHeartbeats 4000000 in
theorem get_sh {i : Instr} {o : Nat} {ini : Bool} {st st' : List Value} {M M' : Mem} (h : gGet i sc o ini st M = some (st', M')) : gGet i sc o ini (st.map (shV X.length)) (emb X Y M) = some (st'.map (shV X.length), emb X Y M') := by
  cases i

  case ldc ix =>
    simp only [gGet] at h ⊢
    split at h
    · cases h
      rfl
    · cases h
  case ldc_w ix =>
    simp only [gGet] at h ⊢
    split at h
    · cases h
      rfl
    · cases h
  case ldc2_w ix =>
    simp only [gGet] at h ⊢
    split at h
    · cases h
      rfl
    · cases h
  case getstatic ix =>
    simp only [gGet] at h ⊢
    split at h
    · cases h
      rfl
    · cases h
  case getfield ix =>
    simp only [gGet] at h
    split at h
    · rename_i a r
      split at h
      · rename_i ci k wi c fs hr hm
        split at h
        · rename_i v hb hv
          cases h
          have h9 := emb_nth (X := X) (Y := Y) hm
          simp only [gGet, List.map_cons, shV, hr, h9, shE, hb, map_nth, hv, Option.map]
        · cases h
      · cases h
    · cases h
  case putfield ix =>
    simp only [gGet] at h
    split at h
    · rename_i v a r
      split at h
      · rename_i ci k wi c fs hr hm
        split at h
        · rename_i hg
          cases h
          have h9 := emb_nth (X := X) (Y := Y) hm
          have h8 := emb_put X Y (.inr (c, gPut fs k v)) (gNth_lt _ _ _ hm)
          simp only [gGet, List.map_cons, sh_ref, hr, h9, shE, List.length_map, fits_sh, hg, map_put]
          rw [← h8]
          rfl
        · cases h
      · cases h
    · cases h
  case iaload =>
    simp only [gGet] at h
    split at h
    · split at h
      · rename_i hm
        split at h
        · rename_i x hat
          cases h
          have h9 := emb_nth (X := X) (Y := Y) hm
          simp only [gGet, List.map_cons, shV, h9, shE, hat]
        · cases h
      · cases h
    · split at h
      · rename_i hl
        split at h
        · rename_i x hat
          cases h
          simp only [gGet, List.map_cons, shV, hl, hat]
        · cases h
      · cases h
    · cases h
  case baload =>
    simp only [gGet] at h
    split at h
    · split at h
      · rename_i hm
        split at h
        · rename_i x hat
          cases h
          have h9 := emb_nth (X := X) (Y := Y) hm
          simp only [gGet, List.map_cons, shV, h9, shE, hat]
        · cases h
      · rename_i hm
        split at h
        · rename_i x hat
          cases h
          have h9 := emb_nth (X := X) (Y := Y) hm
          simp only [gGet, List.map_cons, shV, h9, shE, hat]
        · cases h
      · cases h
    · cases h
  case laload =>
    simp only [gGet] at h
    split at h
    · split at h
      · rename_i hm
        split at h
        · rename_i x hat
          cases h
          have h9 := emb_nth (X := X) (Y := Y) hm
          simp only [gGet, List.map_cons, shV, h9, shE, hat]
        · cases h
      · cases h
    · cases h
  case aaload =>
    simp only [gGet] at h
    split at h
    · split at h
      · rename_i hm
        split at h
        · rename_i x hat
          obtain ⟨h1, h2⟩ := cond_inv h
          cases h2
          have h9 := emb_nth (X := X) (Y := Y) hm
          have h8 := map_at (Option.map (fun a => X.length + a)) hat
          simp only [gGet, List.map_cons, shV, h9, shE, h8, h1, cond]
          rw [← shV_rf]
          rfl
        · cases h
      · cases h
    · cases h
  case iastore =>
    simp only [gGet] at h
    split at h
    · rename_i x j a r
      split at h
      · rename_i l hm
        split at h
        · rename_i y hat
          cases h
          have h9 := emb_nth (X := X) (Y := Y) hm
          have h8 := emb_put X Y (.inl (1, .inl (gPut l j.toNatClampNeg x))) (gNth_lt _ _ _ hm)
          simp only [gGet, List.map_cons, shV, h9, shE, hat]
          rw [← h8]
          rfl
        · cases h
      · cases h
    · cases h
  case lastore =>
    simp only [gGet] at h
    split at h
    · rename_i x j a r
      split at h
      · rename_i l hm
        split at h
        · rename_i y hat
          cases h
          have h9 := emb_nth (X := X) (Y := Y) hm
          have h8 := emb_put X Y (.inl (2, .inr (.inl (gPut l j.toNatClampNeg x)))) (gNth_lt _ _ _ hm)
          simp only [gGet, List.map_cons, shV, h9, shE, hat]
          rw [← h8]
          rfl
        · cases h
      · cases h
    · cases h
  case bastore =>
    simp only [gGet] at h
    split at h
    · rename_i x j a r
      split at h
      · rename_i l hm
        split at h
        · rename_i y hat
          cases h
          have h9 := emb_nth (X := X) (Y := Y) hm
          have h8 := emb_put X Y (.inl (0, .inl (gPut l j.toNatClampNeg (vp_nar .byte x)))) (gNth_lt _ _ _ hm)
          simp only [gGet, List.map_cons, shV, h9, shE, hat]
          rw [← h8]
          rfl
        · cases h
      · rename_i l hm
        split at h
        · rename_i y hat
          cases h
          have h9 := emb_nth (X := X) (Y := Y) hm
          have h8 := emb_put X Y (.inl (3, .inl (gPut l j.toNatClampNeg (vp_nar .boolean x)))) (gNth_lt _ _ _ hm)
          simp only [gGet, List.map_cons, shV, h9, shE, hat]
          rw [← h8]
          rfl
        · cases h
      · cases h
    · cases h
  case aastore =>
    simp only [gGet] at h
    split at h
    · rename_i v j a r
      split at h
      · rename_i t l c fs hm hv
        split at h
        · rename_i y hat
          obtain ⟨h1, h2⟩ := cond_inv h
          cases h2
          have h9 := emb_nth (X := X) (Y := Y) hm
          have h7 := emb_nth (X := X) (Y := Y) hv
          have h6 := map_at (Option.map (fun a => X.length + a)) hat
          have h8 := emb_put X Y (.inl (t, .inr (.inr (gPut l j.toNatClampNeg (some v))))) (gNth_lt _ _ _ hm)
          simp only [gGet, List.map_cons, shV, h9, h7, shE, h6, h1, cond]
          rw [← h8]
          simp only [shE, ← map_put, Option.map]
        · cases h
      · cases h
    · cases h
  case arraylength =>
    simp only [gGet] at h
    split at h
    · split at h
      · rename_i hm
        cases h
        have h9 := emb_nth (X := X) (Y := Y) hm
        simp only [gGet, List.map_cons, shV, h9, shE]
      · rename_i hm
        cases h
        have h9 := emb_nth (X := X) (Y := Y) hm
        simp only [gGet, List.map_cons, shV, h9, shE]
      · cases h
    · split at h
      · rename_i hl
        cases h
        simp only [gGet, List.map_cons, shV, hl]
      · cases h
    · cases h
  all_goals (simp only [gGet] at h; cases h)
set_option maxHeartbeats 4000000 in
theorem nat_sh {id : Nat} {st st' : List Value} {M M' : Mem} (h : gNat id st M = some (st', M')) : gNat id (st.map (shV X.length)) (emb X Y M) = some (st'.map (shV X.length), emb X Y M') := by
  unfold gNat at h ⊢
  split at h
  · dsimp only at h ⊢
    split at h
    · cases h
      rfl
    · cases h
  · dsimp only at h ⊢
    split at h
    · cases h
      rfl
    · cases h
  · dsimp only at h ⊢
    split at h
    · cases h
      rfl
    · cases h
  · dsimp only at h ⊢
    split at h
    · cases h
      rfl
    · cases h
  · dsimp only at h ⊢
    split at h
    · rename_i v a r
      split at h
      · rename_i l hm
        obtain ⟨h1, h2⟩ := cond_inv h
        cases h2
        have h9 := emb_nth (X := X) (Y := Y) hm
        have h8 := emb_put X Y (.inl (1, .inl (gRep (gLn l) v))) (gNth_lt _ _ _ hm)
        simp only [List.map_cons, shV, h9, shE, h1, cond]
        rw [← h8]
        rfl
      · cases h
    · cases h
  · dsimp only at h ⊢
    split at h
    · rename_i n dp b sp a r
      split at h
      · rename_i f g hm hm2
        obtain ⟨h1, h2⟩ := cond_inv h
        cases h2
        have h9 := emb_nth (X := X) (Y := Y) hm
        have h7 := emb_nth (X := X) (Y := Y) hm2
        have h8 := emb_put X Y (.inl (1, .inl (g.take dp.toNatClampNeg ++ ((f.drop sp.toNatClampNeg).take n.toNatClampNeg ++ g.drop (dp.toNatClampNeg + n.toNatClampNeg))))) (gNth_lt _ _ _ hm2)
        simp only [List.map_cons, shV, h9, h7, shE, h1, cond]
        rw [← h8]
        rfl
      · cases h
    · cases h
  · cases h
theorem room_sh (k : Nat) (st : List Value) : gRoom (st.map (shV k)) = gRoom st := by
  unfold gRoom
  rw [List.map_map]
  exact congrArg (fun l : List Nat => Nat.ble l.sum 8) (List.map_congr_left (fun v _ => shV_cat k v))
theorem args_sh (k : Nat) : ∀ as : List Value, gArgs (as.map (shV k)) = (gArgs as).map (shO k) := by
  intro as
  induction as with
  | nil => rfl
  | cons a as ih =>
    show cond (gC1 (shV k a)) (some (shV k a) :: gArgs (as.map (shV k))) (some (shV k a) :: none :: gArgs (as.map (shV k))) = (cond (gC1 a) (some a :: gArgs as) (some a :: none :: gArgs as)).map (shO k)
    rw [shV_c, ih]
    cases gC1 a <;> rfl
theorem pad_sh (k n : Nat) (l : Lo) : gPad n (l.map (shO k)) = (gPad n l).map (shO k) := by
  unfold gPad
  rw [List.map_append, List.length_map, List.map_replicate]
  rfl
theorem recv_sh {M : Mem} {v : Value} {o : Nat} (h : gRecv M v o = true) : gRecv (emb X Y M) (shV X.length v) o = true := by
  unfold gRecv at h
  split at h
  · rename_i a
    split at h
    · rename_i c fs hm
      have h9 := emb_nth (X := X) (Y := Y) hm
      simp only [gRecv, shV, h9, shE]
      exact h
    · cases h
  · cases h
theorem calk_shN {o ix kind : Nat} {st : List Value} {M : Mem} {st' : List Value} {M' : Mem} (h : gCalk o ix kind st M = some (.inl (st', M'))) : gCalk o ix kind (st.map (shV X.length)) (emb X Y M) = some (.inl (st'.map (shV X.length), emb X Y M')) := by
  obtain ⟨id, nest, wi, hr, hble, hq, hk, hroom⟩ := calk_len h
  unfold gCalk
  rw [hr]
  dsimp only
  rw [hble]
  dsimp only
  rw [nat_sh hq]
  dsimp only
  rw [room_sh, hroom, hk]
  have hb : Nat.beq (cond (Nat.beq id 1000) 2 0) (cond (Nat.beq id 1000) 2 0) = true := Nat.beq_refl _
  rw [hb]
  rfl
theorem calk_shC {o ix kind id : Nat} {st rest : List Value} {M : Mem} {ls0 : Lo} (h : gCalk o ix kind st M = some (.inr (id, ls0, rest))) : gCalk o ix kind (st.map (shV X.length)) (emb X Y M) = some (.inr (id, ls0.map (shO X.length), rest.map (shV X.length))) := by
  unfold gCalk at h ⊢
  split at h
  · cases h
  · rename_i id9 nest wi hr
    try rw [hr]
    try dsimp only
    split at h
    · split at h
      · obtain ⟨-, h2⟩ := cond_inv h
        cases h2
      · cases h
    · rename_i hble
      try rw [hble]
      try dsimp only
      split at h
      · cases h
      · rename_i o2 y cc maxL ret np kf tab hm
        try rw [hm]
        try dsimp only
        split at h
        · obtain ⟨h1, h2⟩ := cond_inv h
          cases h2
          try dsimp only
          rw [List.length_map, ← List.map_drop, ← List.map_take, ← List.map_reverse, args_sh, List.length_map, room_sh, h1, pad_sh]
          rfl
        · rename_i j9
          split at h
          · rename_i v r hdr
            obtain ⟨h1, h2⟩ := cond_inv h
            cases h2
            try dsimp only
            have e9 : gArgs (shV X.length v :: ((st.take np).reverse).map (shV X.length)) = (gArgs (v :: (st.take np).reverse)).map (shO X.length) := args_sh X.length (v :: (st.take np).reverse)
            simp only [Bool.and_eq_true] at h1
            rw [← List.map_drop, hdr]
            dsimp only [List.map]
            rw [List.length_map, ← List.map_take, ← List.map_reverse, e9, List.length_map, room_sh, recv_sh h1.1.1.2, pad_sh]
            have h2 : (Nat.beq kf (j9 + 1) && (Nat.beq nest 0 || Nat.beq j9 1) && Nat.ble np st.length && true && gRoom rest && Nat.ble (gArgs (v :: (st.take np).reverse)).length maxL) = true := by
              simp only [Bool.and_eq_true]
              exact ⟨⟨⟨⟨h1.1.1.1.1, h1.1.1.1.2⟩, trivial⟩, h1.1.2⟩, h1.2⟩
            rw [h2]
            rfl
          · cases h
theorem go_emb : ∀ (n d me pc : Nat) (vs : Lo) (st : List Value) (M : Mem) (v : Option Value) (M' : Mem) (s : Nat), go sc n d me pc vs st M = some (v, M', 0, s) → go sc n d me pc (vs.map (shO X.length)) (st.map (shV X.length)) (emb X Y M) = some (v.map (shV X.length), emb X Y M', 0, s) := by
  intro n
  induction n with
  | zero => intro d me pc vs st M v M' s h; cases h
  | succ n ih =>
    intro d me pc vs st M v M' s h
    rw [go_succ] at h ⊢
    unfold gStep at h ⊢
    split at h
    · cases h
    · rename_i o y9 cc9 mx9 ret np9 kf tab hrow
      try rw [hrow]
      try dsimp only
      split at h
      · cases h
      · rename_i kd i hlook
        try rw [hlook]
        try dsimp only
        split at h
        · split at h
          · rename_i hg
            rw [alu_sh _ hg]
            exact ih _ _ _ _ _ _ _ _ _ h
          · cases h
        · split at h
          · rename_i hg
            rw [loc_sh _ hg]
            exact ih _ _ _ _ _ _ _ _ _ h
          · cases h
        · split at h
          · rename_i hg
            rw [jmp_sh _ hg]
            exact ih _ _ _ _ _ _ _ _ _ h
          · cases h
        · split at h
          · rename_i hg
            rw [get_sh hg]
            exact ih _ _ _ _ _ _ _ _ _ h
          · cases h
        · split at h
          · rename_i hg
            rw [get_sh hg]
            exact ih _ _ _ _ _ _ _ _ _ h
          · cases h
        · split at h
          · rename_i hg
            obtain ⟨c1, s1, h1, h2, h3⟩ := add_inv h
            have hz := new_len hg
            have hc : ∀ c2, gNew i o st M = some c2 → 0 < c2.2.2.1 := by
              intro c2 hq
              cases i
              all_goals first | (simp only [gNew] at hq; cases hq; done) | skip
              all_goals
                simp only [gNew] at hq
                repeat' split at hq
                all_goals first | (cases hq; done) | (cases hq; exact Nat.succ_pos _) | skip
                all_goals (obtain ⟨-, hq⟩ := cond_inv hq; cases hq; first | exact Nat.succ_pos _ | (show 0 < 1 + _; omega))
            have := hc _ hg
            dsimp only at this
            omega
          · cases h
        · split at h
          · rename_i v9 hg
            cases h
            unfold gRet at hg ⊢
            split at hg
            · split at hg
              · cases hg
                rfl
              · cases hg
            · split at hg
              · cases hg
                rfl
              · obtain ⟨h1, h2⟩ := cond_inv hg
                cases h2
                dsimp only [List.map, shV]
                rw [h1]
                rfl
              · cases hg
            · cases hg
          · cases h
        · split at h
          · cases h
          · split at h
            · cases h
            · rename_i st2 M2 hg
              obtain ⟨ix, kind, hk2, hk, k0, k1, k2⟩ := cal_kind hg
              have h9 := calk_shN (X := X) (Y := Y) hk
              have e9 : gCal i o (st.map (shV X.length)) (emb X Y M) = gCalk o ix kind (st.map (shV X.length)) (emb X Y M) := by
                rcases (show kind = 0 ∨ kind = 1 ∨ kind = 2 by omega) with q | q | q
                · rw [k0 q, q]; rfl
                · rw [k1 q, q]; rfl
                · rw [k2 q, q]; rfl
              rw [e9, h9]
              exact ih _ _ _ _ _ _ _ _ _ h
            · rename_i id ls0 rest hg
              obtain ⟨ix, kind, hk2, hk, k0, k1, k2⟩ := cal_kind hg
              have h9 := calk_shC (X := X) (Y := Y) hk
              have e9 : gCal i o (st.map (shV X.length)) (emb X Y M) = gCalk o ix kind (st.map (shV X.length)) (emb X Y M) := by
                rcases (show kind = 0 ∨ kind = 1 ∨ kind = 2 by omega) with q | q | q
                · rw [k0 q, q]; rfl
                · rw [k1 q, q]; rfl
                · rw [k2 q, q]; rfl
              obtain ⟨v1, M1, c1, s1, h1, h2⟩ := then_inv h
              obtain ⟨c3, s3, h3, h4, h5⟩ := add_inv h2
              obtain rfl : c1 = 0 := by omega
              obtain rfl : c3 = 0 := by omega
              rw [e9, h9]
              dsimp only
              have i1 := ih _ _ _ _ _ _ _ _ _ h1
              rw [show ([] : List Value).map (shV X.length) = [] from rfl] at i1
              rw [i1]
              have i2 := ih _ _ _ _ _ _ _ _ _ h3
              have e8 : (v1.toList ++ rest).map (shV X.length) = (v1.map (shV X.length)).toList ++ rest.map (shV X.length) := by
                rw [List.map_append]
                cases v1 <;> rfl
              rw [e8] at i2
              show gAdd 0 s1 (go sc n _ me (pc + 3) _ ((v1.map (shV X.length)).toList ++ rest.map (shV X.length)) (emb X Y M1)) = _
              rw [i2, h5]
              rfl
end EMC
