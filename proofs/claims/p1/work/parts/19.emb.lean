/-! PURE: the frame: what a run does not look at may stand before and behind -/
def shV (k : Nat) (v : Value) : Value := match v with
  | .ref a => .ref (k + a)
  | v => v
def shO (k : Nat) (v : Option Value) : Option Value := v.map (shV k)
def shE (k : Nat) (e : AE) : AE := match e with
  | .inl (t, .inl l) => .inl (t, .inl l)
  | .inl (t, .inr (.inl l)) => .inl (t, .inr (.inl l))
  | .inl (t, .inr (.inr l)) => .inl (t, .inr (.inr (l.map (Option.map (fun a => k + a)))))
  | .inr (c, vs) => .inr (c, vs.map (shV k))
def emb (X Y M : Mem) : Mem := X ++ (M.map (shE X.length) ++ Y)
theorem shV_c (k : Nat) (v : Value) : gC1 (shV k v) = gC1 v := by cases v <;> rfl
theorem shV_cat (k : Nat) (v : Value) : (shV k v).category = v.category := by cases v <;> rfl
theorem emb_nth {X Y M : Mem} {a : Nat} {e : AE} (h : gNth M a = some e) : gNth (emb X Y M) (X.length + a) = some (shE X.length e) := by
  rw [nth_eq] at h ⊢
  have hl := (List.getElem?_eq_some_iff.mp h).1
  unfold emb
  rw [List.getElem?_append_right (by omega), List.getElem?_append_left (by rw [List.length_map]; omega), List.getElem?_map, show X.length + a - X.length = a by omega, h]
  rfl
theorem emb_put (X Y : Mem) {M : Mem} {a : Nat} (e : AE) (h : a < M.length) : gPut (emb X Y M) (X.length + a) (shE X.length e) = emb X Y (gPut M a e) := by
  rw [put_eq, put_eq]
  unfold emb
  rw [List.set_append, if_neg (by omega), List.set_append, if_pos (by rw [List.length_map]; omega), show X.length + a - X.length = a by omega, List.map_set]
theorem map_nth {α β : Type} (f : α → β) (l : List α) (i : Nat) : gNth (l.map f) i = (gNth l i).map f := by
  rw [nth_eq, nth_eq, List.getElem?_map]
theorem map_put {α β : Type} (f : α → β) (l : List α) (i : Nat) (v : α) : gPut (l.map f) i (f v) = (gPut l i v).map f := by
  rw [put_eq, put_eq, List.map_set]
theorem map_at {α β : Type} (f : α → β) {l : List α} {j : Int32} {x : α} (h : gAt l j = some x) : gAt (l.map f) j = some (f x) := by
  unfold gAt at h ⊢
  cases hd : decide (j < 0) with
  | true => rw [hd] at h; cases h
  | false =>
    rw [hd] at h
    have h2 : gNth l j.toNatClampNeg = some x := h
    show gNth (l.map f) j.toNatClampNeg = _
    rw [map_nth, h2]
    rfl
theorem shV_rf (k : Nat) (x : Option Nat) : shV k (va_rf x) = va_rf (x.map (fun a => k + a)) := by cases x <;> rfl
theorem fits_sh (k : Nat) (ty : FieldType) (v : Value) : fits ty (shV k v) = fits ty v := by cases v <;> cases ty <;> rfl
section EMB
variable {X Y : Mem} {sc : Sta}
set_option maxHeartbeats 4000000 in
theorem alu_sh (k : Nat) {i : Instr} {st st' : List Value} (h : gAlu i st = some st') : gAlu i (st.map (shV k)) = some (st'.map (shV k)) := by
  cases i
  case iconst n => cases h; rfl
  case bipush n => cases h; rfl
  case sipush n => cases h; rfl
  case lconst n => cases h; rfl
  case iadd =>
    simp only [gAlu] at h
    split at h
    · cases h; rfl
    · cases h
  case isub =>
    simp only [gAlu] at h
    split at h
    · cases h; rfl
    · cases h
  case imul =>
    simp only [gAlu] at h
    split at h
    · cases h; rfl
    · cases h
  case ineg =>
    simp only [gAlu] at h
    split at h
    · cases h; rfl
    · cases h
  case iand =>
    simp only [gAlu] at h
    split at h
    · cases h; rfl
    · cases h
  case ior =>
    simp only [gAlu] at h
    split at h
    · cases h; rfl
    · cases h
  case ixor =>
    simp only [gAlu] at h
    split at h
    · cases h; rfl
    · cases h
  case ishl =>
    simp only [gAlu] at h
    split at h
    · cases h; rfl
    · cases h
  case ishr =>
    simp only [gAlu] at h
    split at h
    · cases h; rfl
    · cases h
  case ladd =>
    simp only [gAlu] at h
    split at h
    · cases h; rfl
    · cases h
  case lsub =>
    simp only [gAlu] at h
    split at h
    · cases h; rfl
    · cases h
  case land =>
    simp only [gAlu] at h
    split at h
    · cases h; rfl
    · cases h
  case lor =>
    simp only [gAlu] at h
    split at h
    · cases h; rfl
    · cases h
  case lxor =>
    simp only [gAlu] at h
    split at h
    · cases h; rfl
    · cases h
  case iushr =>
    simp only [gAlu] at h
    split at h
    · cases h; rfl
    · cases h
  case lshl =>
    simp only [gAlu] at h
    split at h
    · cases h; rfl
    · cases h
  case lushr =>
    simp only [gAlu] at h
    split at h
    · cases h; rfl
    · cases h
  case i2l =>
    simp only [gAlu] at h
    split at h
    · cases h; rfl
    · cases h
  case l2i =>
    simp only [gAlu] at h
    split at h
    · cases h; rfl
    · cases h
  case i2b =>
    simp only [gAlu] at h
    split at h
    · cases h; rfl
    · cases h
  case i2c =>
    simp only [gAlu] at h
    split at h
    · cases h; rfl
    · cases h
  case lcmp =>
    simp only [gAlu] at h
    split at h
    · cases h; rfl
    · cases h
  case idiv =>
    simp only [gAlu] at h
    split at h
    · split at h
      · cases h
      · rename_i hne
        cases h
        show (if _ = 0 then none else _) = _
        rw [if_neg hne]
        rfl
    · cases h
  case irem =>
    simp only [gAlu] at h
    split at h
    · split at h
      · cases h
      · rename_i hne
        cases h
        show (if _ = 0 then none else _) = _
        rw [if_neg hne]
        rfl
    · cases h
  case dup =>
    simp only [gAlu] at h
    split at h
    · obtain ⟨h1, h2⟩ := cond_inv h
      cases h2
      show cond (gC1 (shV k _)) _ _ = _
      rw [shV_c, h1]
      rfl
    · cases h
  case pop =>
    simp only [gAlu] at h
    split at h
    · obtain ⟨h1, h2⟩ := cond_inv h
      cases h2
      show cond (gC1 (shV k _)) _ _ = _
      rw [shV_c, h1]
      rfl
    · cases h
  case dup_x1 =>
    simp only [gAlu] at h
    split at h
    · obtain ⟨h1, h2⟩ := cond_inv h
      cases h2
      show cond (gC1 (shV k _) && gC1 (shV k _)) _ _ = _
      rw [shV_c, shV_c, h1]
      rfl
    · cases h
  case dup2 =>
    simp only [gAlu] at h
    split at h
    · obtain ⟨h1, h2⟩ := cond_inv h
      cases h2
      show cond (gC1 (shV k _) && gC1 (shV k _)) _ _ = _
      rw [shV_c, shV_c, h1]
      rfl
    · cases h
  all_goals (simp only [gAlu] at h; cases h)
theorem st_sh (k : Nat) {ls l : Lo} {j : Nat} {v : Value} (h : gSt ls j v = some l) : gSt (ls.map (shO k)) j (shV k v) = some (l.map (shO k)) := by
  unfold gSt at h ⊢
  rw [map_nth]
  split at h
  · cases h
  · rename_i x hx
    rw [hx]
    dsimp only [Option.map]
    split at h
    · cases h
      rw [← map_put]
      rfl
    · rename_i j9
      rw [map_nth]
      split at h
      · rename_i w hw
        obtain ⟨h1, h2⟩ := cond_inv h
        cases h2
        rw [hw]
        show cond (gC1 (shV k w)) _ _ = _
        rw [shV_c, h1, ← map_put]
        rfl
      · rename_i hw
        cases h
        rw [← map_put]
        cases hq : gNth ls j9 with
        | none => rfl
        | some q =>
          cases q with
          | none => rfl
          | some w => exact absurd hq (hw w)
theorem st2_sh (k : Nat) {ls l : Lo} {j : Nat} {v : Value} (h : gSt2 ls j v = some l) : gSt2 (ls.map (shO k)) j (shV k v) = some (l.map (shO k)) := by
  unfold gSt2 at h ⊢
  rw [map_nth]
  split at h
  · cases h
  · rename_i x hx
    rw [hx]
    dsimp only [Option.map]
    split at h
    · cases h
      rw [← map_put, ← map_put]
      rfl
    · rename_i j9
      rw [map_nth]
      split at h
      · rename_i w hw
        obtain ⟨h1, h2⟩ := cond_inv h
        cases h2
        rw [hw]
        show cond (gC1 (shV k w)) _ _ = _
        rw [shV_c, h1, ← map_put, ← map_put]
        rfl
      · rename_i hw
        cases h
        rw [← map_put, ← map_put]
        cases hq : gNth ls j9 with
        | none => rfl
        | some q =>
          cases q with
          | none => rfl
          | some w => exact absurd hq (hw w)
set_option maxHeartbeats 4000000 in
theorem loc_sh (k : Nat) {i : Instr} {ls l : Lo} {st st' : List Value} (h : gLoc i ls st = some (l, st')) : gLoc i (ls.map (shO k)) (st.map (shV k)) = some (l.map (shO k), st'.map (shV k)) := by
  cases i
  case iload_n j =>
    simp only [gLoc, gLi] at h ⊢
    rw [map_nth]
    split at h
    all_goals first | (rename_i hq; rw [hq]; cases h; rfl; done) | (cases h; done)
  case iload j =>
    simp only [gLoc, gLi] at h ⊢
    rw [map_nth]
    split at h
    all_goals first | (rename_i hq; rw [hq]; cases h; rfl; done) | (cases h; done)
  case lload_n j =>
    simp only [gLoc, gLl] at h ⊢
    rw [map_nth]
    split at h
    all_goals first | (rename_i hq; rw [hq]; cases h; rfl; done) | (cases h; done)
  case aload_n j =>
    simp only [gLoc, gLa] at h ⊢
    rw [map_nth]
    split at h
    all_goals first | (rename_i hq; rw [hq]; cases h; rfl; done) | (cases h; done)
  case aload j =>
    simp only [gLoc, gLa] at h ⊢
    rw [map_nth]
    split at h
    all_goals first | (rename_i hq; rw [hq]; cases h; rfl; done) | (cases h; done)
  case istore_n j =>
    simp only [gLoc, gSi] at h ⊢
    split at h
    · split at h
      · rename_i hq
        cases h
        have h9 := st_sh k hq
        dsimp only [List.map, shV] at h9 ⊢
        rw [h9]
      · cases h
    · cases h
  case istore j =>
    simp only [gLoc, gSi] at h ⊢
    split at h
    · split at h
      · rename_i hq
        cases h
        have h9 := st_sh k hq
        dsimp only [List.map, shV] at h9 ⊢
        rw [h9]
      · cases h
    · cases h
  case astore_n j =>
    simp only [gLoc, gSa] at h ⊢
    split at h
    · split at h
      · rename_i hq
        cases h
        have h9 := st_sh k hq
        dsimp only [List.map, shV] at h9 ⊢
        rw [h9]
      · cases h
    · cases h
  case astore j =>
    simp only [gLoc, gSa] at h ⊢
    split at h
    · split at h
      · rename_i hq
        cases h
        have h9 := st_sh k hq
        dsimp only [List.map, shV] at h9 ⊢
        rw [h9]
      · cases h
    · cases h
  case lstore_n j =>
    simp only [gLoc, gSl] at h ⊢
    split at h
    · split at h
      · rename_i hq
        cases h
        have h9 := st2_sh k hq
        dsimp only [List.map, shV] at h9 ⊢
        rw [h9]
      · cases h
    · cases h
  case iinc j n =>
    simp only [gLoc] at h ⊢
    rw [map_nth]
    split at h
    · rename_i hv
      split at h
      · rename_i hq
        cases h
        have h9 := st_sh k hq
        rw [hv]
        dsimp only [Option.map, shO, shV] at h9 ⊢
        rw [h9]
      · cases h
    · cases h
  all_goals (simp only [gLoc] at h; cases h)
set_option maxHeartbeats 4000000 in
theorem jmp_sh (k : Nat) {i : Instr} {pc pc' : Nat} {st st' : List Value} (h : gJmp i pc st = some (pc', st')) : gJmp i pc (st.map (shV k)) = some (pc', st'.map (shV k)) := by
  cases i
  case goto off =>
    simp only [gJmp] at h ⊢
    obtain ⟨h1, h2⟩ := cond_inv h
    cases h2
    rw [h1]
    rfl
  case ifCond op off =>
    simp only [gJmp] at h ⊢
    split at h
    · obtain ⟨h1, h2⟩ := cond_inv h
      cases h2
      dsimp only [List.map, shV]
      rw [h1]
      rfl
    · cases h
  case if_icmp op off =>
    simp only [gJmp] at h ⊢
    split at h
    · obtain ⟨h1, h2⟩ := cond_inv h
      cases h2
      dsimp only [List.map, shV]
      rw [h1]
      rfl
    · cases h
  case tableswitch d lo hi offs =>
    simp only [gJmp] at h ⊢
    split at h
    · obtain ⟨h1, h2⟩ := cond_inv h
      cases h2
      dsimp only [List.map, shV]
      rw [h1]
      rfl
    · cases h
  case lookupswitch d ps =>
    simp only [gJmp] at h ⊢
    split at h
    · obtain ⟨h1, h2⟩ := cond_inv h
      cases h2
      dsimp only [List.map, shV]
      rw [h1]
      rfl
    · cases h
  all_goals (simp only [gJmp] at h; cases h)
end EMB
