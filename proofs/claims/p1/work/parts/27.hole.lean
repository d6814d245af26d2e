/-! PURE: a place of the memory, and places of the locals, that a run never looks at may hold anything; and it may stand deeper -/
theorem gExt {α : Type} {l m : List α} (h : ∀ i, gNth l i = gNth m i) : l = m := List.ext_getElem? (fun i => by rw [← nth_eq, ← nth_eq]; exact h i)
theorem gNth_in {α : Type} {l : List α} {i : Nat} {v : α} (h : gNth l i = some v) : i < l.length := by
  rw [nth_eq] at h
  exact (List.getElem?_eq_some_iff.mp h).1
noncomputable def hE (k : Nat) (x : Int32) (e : AE) : AE := match e with
  | .inl (t, .inl l) => .inl (t, .inl (gPut l k x))
  | .inl (t, .inr r) => .inl (t, .inr r)
  | .inr (c, fs) => .inr (c, gPut fs k (.int x))
noncomputable def hM (a k : Nat) (x : Int32) (M : Mem) : Mem := match gNth M a with
  | some e => gPut M a (hE k x e)
  | none => M
theorem hM_nth (a k : Nat) (x : Int32) (M : Mem) (b : Nat) : gNth (hM a k x M) b = if b = a then (gNth M b).map (hE k x) else gNth M b := by
  unfold hM
  cases h : gNth M a with
  | none =>
    dsimp only
    split
    · rename_i hb; subst hb; rw [h]; rfl
    · rfl
  | some e =>
    dsimp only
    rw [nth_put]
    have hl : a < M.length := gNth_in h
    by_cases hb : b = a
    · subst hb; rw [if_pos ⟨rfl, hl⟩, if_pos rfl, h]; rfl
    · rw [if_neg (fun q => hb q.1), if_neg hb]
theorem hM_len (a k : Nat) (x : Int32) (M : Mem) : (hM a k x M).length = M.length := by
  unfold hM
  split
  · rw [put_len]
  · rfl
theorem hM_ne {a k : Nat} {x : Int32} {M : Mem} {b : Nat} (h : b ≠ a) : gNth (hM a k x M) b = gNth M b := by rw [hM_nth, if_neg h]
theorem hM_eq {a k : Nat} {x : Int32} {M : Mem} {e : AE} (h : gNth M a = some e) : gNth (hM a k x M) a = some (hE k x e) := by rw [hM_nth, if_pos rfl, h]; rfl
theorem hM_put_ne {a k : Nat} {x : Int32} {M : Mem} {b : Nat} {e : AE} (h : b ≠ a) : hM a k x (gPut M b e) = gPut (hM a k x M) b e := by
  refine gExt (fun i => ?_)
  rw [hM_nth, nth_put, nth_put, hM_nth, hM_len]
  by_cases h1 : i = b ∧ b < M.length
  · rw [if_pos h1, if_pos h1, if_neg (fun q => h (h1.1.symm.trans q))]
  · rw [if_neg h1, if_neg h1]
theorem hM_put_eq {a k : Nat} {x : Int32} {M : Mem} {e : AE} : hM a k x (gPut M a e) = gPut (hM a k x M) a (hE k x e) := by
  refine gExt (fun i => ?_)
  rw [hM_nth, nth_put, nth_put, hM_nth, hM_len]
  by_cases h1 : i = a ∧ a < M.length
  · rw [if_pos h1, if_pos h1, if_pos h1.1]; rfl
  · rw [if_neg h1, if_neg h1]
theorem hM_out {a k : Nat} {x : Int32} {M : Mem} (h : M.length ≤ a) : hM a k x M = M := by
  unfold hM
  cases h1 : gNth M a with
  | none => rfl
  | some e => exact absurd (gNth_in h1) (by omega)
theorem put_comm {α : Type} {l : List α} {k j : Nat} {x y : α} (h : j ≠ k) : gPut (gPut l k x) j y = gPut (gPut l j y) k x := by
  refine gExt (fun i => ?_)
  rw [nth_put, nth_put, nth_put, nth_put, put_len, put_len]
  by_cases h1 : i = j
  · subst h1
    have e1 : ¬ (i = k ∧ k < l.length) := fun q => h q.1
    rw [if_neg e1, if_neg e1]
  · rw [if_neg (fun q : i = j ∧ j < l.length => h1 q.1), if_neg (fun q : i = j ∧ j < l.length => h1 q.1)]
theorem nth_put_ne {α : Type} {l : List α} {k j : Nat} {x : α} (h : j ≠ k) : gNth (gPut l k x) j = gNth l j := by
  rw [nth_put, if_neg (fun q => h q.1)]
theorem at_put_ne {α : Type} {l : List α} {k : Nat} {j : Int32} {x : α} (h : j.toNatClampNeg ≠ k) : gAt (gPut l k x) j = gAt l j := by
  unfold gAt
  rw [nth_put_ne h]
theorem beq_ne {x y : Nat} (h : Nat.beq x y = false) : x ≠ y := fun q => by
  subst q
  rw [Nat.beq_refl] at h
  cases h
theorem grd_or {b a kk k : Nat} (h : (!(Nat.beq b a && Nat.beq kk k)) = true) : b ≠ a ∨ kk ≠ k := by
  cases h1 : Nat.beq b a with
  | false => exact Or.inl (beq_ne h1)
  | true => cases h2 : Nat.beq kk k with
    | false => exact Or.inr (beq_ne h2)
    | true => rw [h1, h2] at h; cases h
noncomputable def gOkF (a k o ix b : Nat) : Bool := match gOwn fRs o ix with
  | some (_, kk, _) => !(Nat.beq b a && Nat.beq kk k)
  | none => true
/-- the instruction doesn't look at place k of cell a -/
noncomputable def gOkG (a k o : Nat) (i : Instr) : List Value → Bool := match i with
  | .getfield ix => fun st => match st with
    | .ref b :: _ => gOkF a k o ix b
    | _ => true
  | .putfield ix => fun st => match st with
    | _ :: .ref b :: _ => gOkF a k o ix b
    | _ => true
  | .iaload => fun st => match st with
    | .int j :: .ref b :: _ => !(Nat.beq b a && Nat.beq j.toNatClampNeg k)
    | _ => true
  | .baload => fun st => match st with
    | .int j :: .ref b :: _ => !(Nat.beq b a && Nat.beq j.toNatClampNeg k)
    | _ => true
  | .iastore => fun st => match st with
    | _ :: .int j :: .ref b :: _ => !(Nat.beq b a && Nat.beq j.toNatClampNeg k)
    | _ => true
  | .bastore => fun st => match st with
    | _ :: .int j :: .ref b :: _ => !(Nat.beq b a && Nat.beq j.toNatClampNeg k)
    | _ => true
  | _ => fun _ => true
noncomputable def gOkC (a id : Nat) : List Value → Bool := match id with
  | 1004 => fun st => match st with
    | _ :: .ref b :: _ => !Nat.beq b a
    | _ => true
  | 1005 => fun st => match st with
    | _ :: _ :: .ref b :: _ :: .ref c :: _ => !Nat.beq b a && !Nat.beq c a
    | _ => true
  | _ => fun _ => true
noncomputable def gOkX (a o ix : Nat) (st : List Value) : Bool := match gOwn mRes o ix with
  | some (id, _, _) => gOkC a id st
  | none => true
noncomputable def gOkI (a o : Nat) (i : Instr) (st : List Value) : Bool := match i with
  | .invokestatic ix => gOkX a o ix st
  | .invokevirtual ix => gOkX a o ix st
  | .invokespecial ix => gOkX a o ix st
  | _ => true
theorem notb {b : Bool} (h : (!b) = true) : b = false := by cases b <;> first | rfl | cases h
theorem nat_hole {a k id : Nat} {x : Int32} {st st' : List Value} {M M' : Mem} (hok : gOkC a id st = true) (h : gNat id st M = some (st', M')) : gNat id st (hM a k x M) = some (st', hM a k x M') := by
  unfold gNat at h
  split at h
  all_goals dsimp only at h
  · split at h
    · cases h; rfl
    · cases h
  · split at h
    · cases h; rfl
    · cases h
  · split at h
    · cases h; rfl
    · cases h
  · split at h
    · cases h; rfl
    · cases h
  · split at h
    · rename_i v b r
      split at h
      · rename_i l hm
        obtain ⟨h1, h2⟩ := cond_inv h
        cases h2
        have hne : b ≠ a := beq_ne (notb hok)
        rw [hM_put_ne hne]
        show (match gNth (hM a k x M) b with
          | some (.inl (1, .inl l)) => cond (Nat.ble (gLn l) 60000) (some (st', gPut (hM a k x M) b (.inl (1, .inl (gRep (gLn l) v))))) none
          | _ => none) = _
        rw [hM_ne hne, hm]
        show cond (Nat.ble (gLn l) 60000) _ none = _
        rw [h1]
        rfl
      · cases h
    · cases h
  · split at h
    · rename_i n dp b sp b2 r
      split at h
      · rename_i f g hm1 hm2
        obtain ⟨h1, h2⟩ := cond_inv h
        cases h2
        have hok2 : (!Nat.beq b a && !Nat.beq b2 a) = true := hok
        rw [Bool.and_eq_true] at hok2
        have hne : b ≠ a := beq_ne (notb hok2.1)
        have hne2 : b2 ≠ a := beq_ne (notb hok2.2)
        rw [hM_put_ne hne]
        have e1 : gNth (hM a k x M) b = some (.inl (1, .inl g)) := by rw [hM_ne hne]; first | exact hm1 | exact hm2
        have e2 : gNth (hM a k x M) b2 = some (.inl (1, .inl f)) := by rw [hM_ne hne2]; first | exact hm1 | exact hm2
        simp only [gNat, e1, e2, h1, cond_true]
      · cases h
    · cases h
  · cases h
theorem recv_hole (a k : Nat) (x : Int32) (M : Mem) (v : Value) (o : Nat) : gRecv (hM a k x M) v o = gRecv M v o := by
  unfold gRecv
  split
  · rename_i b
    rw [hM_nth]
    by_cases hb : b = a
    · rw [if_pos hb]
      cases gNth M b with
      | none => rfl
      | some e =>
        rcases e with ⟨t, l | l | l⟩ | ⟨c, fs⟩ <;> rfl
    · rw [if_neg hb]
  · rfl
noncomputable def hZ (a k : Nat) (x : Int32) (z : (List Value × Mem) ⊕ (Nat × Lo × List Value)) : (List Value × Mem) ⊕ (Nat × Lo × List Value) := match z with
  | .inl (s, M) => .inl (s, hM a k x M)
  | .inr q => .inr q
theorem calk_hole {a k o ix kind : Nat} {x : Int32} {st : List Value} {M : Mem} {z} (hok : gOkX a o ix st = true) (h : gCalk o ix kind st M = some z) : gCalk o ix kind st (hM a k x M) = some (hZ a k x z) := by
  unfold gCalk at h ⊢
  unfold gOkX at hok
  cases hr : gOwn mRes o ix with
  | none => rw [hr] at h; cases h
  | some q =>
    obtain ⟨id, nest, wi⟩ := q
    rw [hr] at h hok
    dsimp only at h hok ⊢
    cases hb : Nat.ble 1000 id with
    | true =>
      rw [hb] at h
      dsimp only at h ⊢
      cases hn : gNat id st M with
      | none => rw [hn] at h; cases h
      | some q =>
        obtain ⟨s1, M1⟩ := q
        rw [hn] at h
        dsimp only at h
        rw [nat_hole hok hn]
        obtain ⟨h1, h2⟩ := cond_inv h
        cases h2
        dsimp only
        rw [h1]
        rfl
    | false =>
      rw [hb] at h
      dsimp only at h ⊢
      cases hm : gNth mRs id with
      | none => rw [hm] at h; cases h
      | some q =>
        obtain ⟨o2, a1, a2, maxL, a3, np, kf, tab⟩ := q
        rw [hm] at h
        dsimp only at h ⊢
        cases kind with
        | zero =>
          dsimp only at h ⊢
          obtain ⟨h1, h2⟩ := cond_inv h
          cases h2
          rw [h1]
          rfl
        | succ kd =>
          dsimp only at h ⊢
          cases hd : st.drop np with
          | nil => rw [hd] at h; cases h
          | cons w r =>
            rw [hd] at h
            dsimp only at h ⊢
            rw [recv_hole]
            obtain ⟨h1, h2⟩ := cond_inv h
            cases h2
            rw [h1]
            rfl
theorem cal_hole {a k o : Nat} {i : Instr} {x : Int32} {st : List Value} {M : Mem} {z} (hok : gOkI a o i st = true) (h : gCal i o st M = some z) : gCal i o st (hM a k x M) = some (hZ a k x z) := by
  cases i
  case invokestatic ix => exact calk_hole hok h
  case invokevirtual ix => exact calk_hole hok h
  case invokespecial ix => exact calk_hole hok h
  all_goals (simp only [gCal] at h; cases h)
theorem okF_or {a k o ix b ci kk wi} (h1 : gOwn fRs o ix = some (ci, kk, wi)) (h : gOkF a k o ix b = true) : b ≠ a ∨ kk ≠ k := by
  unfold gOkF at h
  rw [h1] at h
  exact grd_or h
theorem get_hole {a k o : Nat} {i : Instr} {SA : Sta} {ini : Bool} {x : Int32} {st st' : List Value} {M M' : Mem} (hok : gOkG a k o i st = true) (h : gGet i SA o ini st M = some (st', M')) : gGet i SA o ini st (hM a k x M) = some (st', hM a k x M') := by
  cases i
  case ldc ix =>
    simp only [gGet] at h ⊢
    cases hq : gOwn cRs o ix with
    | none => rw [hq] at h; cases h
    | some q => rw [hq] at h; cases h; rfl
  case ldc_w ix =>
    simp only [gGet] at h ⊢
    cases hq : gOwn cRs o ix with
    | none => rw [hq] at h; cases h
    | some q => rw [hq] at h; cases h; rfl
  case ldc2_w ix =>
    simp only [gGet] at h ⊢
    cases hq : gOwn lRs o ix with
    | none => rw [hq] at h; cases h
    | some q => rw [hq] at h; cases h; rfl
  case getstatic ix =>
    simp only [gGet] at h ⊢
    cases hq : gOwn sRs o ix with
    | none => rw [hq] at h; cases h
    | some q => rw [hq] at h; cases h; rfl
  case getfield ix =>
    simp only [gGet] at h
    split at h
    · rename_i b r
      split at h
      · rename_i ci kk wi c fs h1 h2
        split at h
        · rename_i v h3 h4
          cases h
          have hg := okF_or h1 hok
          have e1 : ∃ fs', gNth (hM a k x M) b = some (.inr (c, fs')) ∧ gNth fs' kk = some v := by
            by_cases hb : b = a
            · subst hb
              refine ⟨_, hM_eq h2, ?_⟩
              rw [nth_put_ne (hg.resolve_left (fun q => q rfl))]
              exact h4
            · exact ⟨fs, by rw [hM_ne hb]; exact h2, h4⟩
          obtain ⟨fs', e1, e2⟩ := e1
          simp only [gGet, h1, e1, h3, e2]
        · cases h
      · cases h
    · cases h
  case putfield ix =>
    simp only [gGet] at h
    split at h
    · rename_i v b r
      split at h
      · rename_i ci kk wi c fs h1 h2
        split at h
        · rename_i h3
          cases h
          have hg := okF_or h1 hok
          by_cases hb : b = a
          · subst hb
            have e1 : gNth (hM b k x M) b = some (.inr (c, gPut fs k (.int x))) := hM_eq h2
            have hk := hg.resolve_left (fun q => q rfl)
            rw [hM_put_eq]
            show _ = some (_, gPut (hM b k x M) b (.inr (c, gPut (gPut fs kk v) k (.int x))))
            rw [← put_comm hk]
            simp only [gGet, h1, e1, put_len, h3]
          · rw [hM_put_ne hb]
            have e1 : gNth (hM a k x M) b = some (.inr (c, fs)) := by rw [hM_ne hb]; exact h2
            simp only [gGet, h1, e1, h3]
        · cases h
      · cases h
    · cases h
  case iaload =>
    simp only [gGet] at h
    split at h
    · rename_i j b r
      split at h
      · rename_i l h2
        split at h
        · rename_i y h3
          cases h
          have hg := grd_or hok
          have e1 : ∃ l', gNth (hM a k x M) b = some (.inl (1, .inl l')) ∧ gAt l' j = some y := by
            by_cases hb : b = a
            · subst hb
              exact ⟨_, hM_eq h2, by rw [at_put_ne (hg.resolve_left (fun q => q rfl))]; exact h3⟩
            · exact ⟨l, by rw [hM_ne hb]; exact h2, h3⟩
          obtain ⟨l', e1, e2⟩ := e1
          simp only [gGet, e1, e2]
        · cases h
      · cases h
    · rename_i j b r
      split at h
      · rename_i l h2
        split at h
        · rename_i y h3
          cases h
          simp only [gGet, h2, h3]
        · cases h
      · cases h
    · cases h
  case baload =>
    simp only [gGet] at h
    split at h
    · rename_i j b r
      have hg := grd_or hok
      split at h
      · rename_i l h2
        split at h
        · rename_i y h3
          cases h
          have e1 : ∃ l', gNth (hM a k x M) b = some (.inl (0, .inl l')) ∧ gAt l' j = some y := by
            by_cases hb : b = a
            · subst hb
              exact ⟨_, hM_eq h2, by rw [at_put_ne (hg.resolve_left (fun q => q rfl))]; exact h3⟩
            · exact ⟨l, by rw [hM_ne hb]; exact h2, h3⟩
          obtain ⟨l', e1, e2⟩ := e1
          simp only [gGet, e1, e2]
        · cases h
      · rename_i l h2
        split at h
        · rename_i y h3
          cases h
          have e1 : ∃ l', gNth (hM a k x M) b = some (.inl (3, .inl l')) ∧ gAt l' j = some y := by
            by_cases hb : b = a
            · subst hb
              exact ⟨_, hM_eq h2, by rw [at_put_ne (hg.resolve_left (fun q => q rfl))]; exact h3⟩
            · exact ⟨l, by rw [hM_ne hb]; exact h2, h3⟩
          obtain ⟨l', e1, e2⟩ := e1
          simp only [gGet, e1, e2]
        · cases h
      · cases h
    · cases h
  case laload =>
    simp only [gGet] at h
    split at h
    · rename_i j b r
      split at h
      · rename_i l h2
        split at h
        · rename_i y h3
          cases h
          have e1 : gNth (hM a k x M) b = some (.inl (2, .inr (.inl l))) := by
            by_cases hb : b = a
            · subst hb; exact hM_eq h2
            · rw [hM_ne hb]; exact h2
          simp only [gGet, e1, h3]
        · cases h
      · cases h
    · cases h
  case aaload =>
    simp only [gGet] at h
    split at h
    · rename_i j b r
      split at h
      · rename_i t l h2
        split at h
        · rename_i y h3
          obtain ⟨h4, h5⟩ := cond_inv h
          cases h5
          have e1 : gNth (hM a k x M) b = some (.inl (t, .inr (.inr l))) := by
            by_cases hb : b = a
            · subst hb; exact hM_eq h2
            · rw [hM_ne hb]; exact h2
          simp only [gGet, e1, h3, h4, cond_true]
        · cases h
      · cases h
    · cases h
  case iastore =>
    simp only [gGet] at h
    split at h
    · rename_i y j b r
      split at h
      · rename_i l h2
        split at h
        · rename_i y0 h3
          cases h
          have hg := grd_or hok
          by_cases hb : b = a
          · subst hb
            have hk := hg.resolve_left (fun q => q rfl)
            have e1 : gNth (hM b k x M) b = some (.inl (1, .inl (gPut l k x))) := hM_eq h2
            have e2 : gAt (gPut l k x) j = some y0 := by rw [at_put_ne hk]; exact h3
            rw [hM_put_eq]
            show _ = some (_, gPut (hM b k x M) b (.inl (1, .inl (gPut (gPut l j.toNatClampNeg y) k x))))
            rw [← put_comm hk]
            simp only [gGet, e1, e2]
          · rw [hM_put_ne hb]
            have e1 : gNth (hM a k x M) b = some (.inl (1, .inl l)) := by rw [hM_ne hb]; exact h2
            simp only [gGet, e1, h3]
        · cases h
      · cases h
    · cases h
  case bastore =>
    simp only [gGet] at h
    split at h
    · rename_i y j b r
      have hg := grd_or hok
      split at h
      · rename_i l h2
        split at h
        · rename_i y0 h3
          cases h
          by_cases hb : b = a
          · subst hb
            have hk := hg.resolve_left (fun q => q rfl)
            have e1 : gNth (hM b k x M) b = some (.inl (0, .inl (gPut l k x))) := hM_eq h2
            have e2 : gAt (gPut l k x) j = some y0 := by rw [at_put_ne hk]; exact h3
            rw [hM_put_eq]
            show _ = some (_, gPut (hM b k x M) b (.inl (0, .inl (gPut (gPut l j.toNatClampNeg (vp_nar .byte y)) k x))))
            rw [← put_comm hk]
            simp only [gGet, e1, e2]
          · rw [hM_put_ne hb]
            have e1 : gNth (hM a k x M) b = some (.inl (0, .inl l)) := by rw [hM_ne hb]; exact h2
            simp only [gGet, e1, h3]
        · cases h
      · rename_i l h2
        split at h
        · rename_i y0 h3
          cases h
          by_cases hb : b = a
          · subst hb
            have hk := hg.resolve_left (fun q => q rfl)
            have e1 : gNth (hM b k x M) b = some (.inl (3, .inl (gPut l k x))) := hM_eq h2
            have e2 : gAt (gPut l k x) j = some y0 := by rw [at_put_ne hk]; exact h3
            rw [hM_put_eq]
            show _ = some (_, gPut (hM b k x M) b (.inl (3, .inl (gPut (gPut l j.toNatClampNeg (vp_nar .boolean y)) k x))))
            rw [← put_comm hk]
            simp only [gGet, e1, e2]
          · rw [hM_put_ne hb]
            have e1 : gNth (hM a k x M) b = some (.inl (3, .inl l)) := by rw [hM_ne hb]; exact h2
            simp only [gGet, e1, h3]
        · cases h
      · cases h
    · cases h
  case lastore =>
    simp only [gGet] at h
    split at h
    · rename_i y j b r
      split at h
      · rename_i l h2
        split at h
        · rename_i y0 h3
          cases h
          have e1 : gNth (hM a k x M) b = some (.inl (2, .inr (.inl l))) := by
            by_cases hb : b = a
            · subst hb; exact hM_eq h2
            · rw [hM_ne hb]; exact h2
          have e2 : hM a k x (gPut M b (.inl (2, .inr (.inl (gPut l j.toNatClampNeg y))))) = gPut (hM a k x M) b (.inl (2, .inr (.inl (gPut l j.toNatClampNeg y)))) := by
            by_cases hb : b = a
            · subst hb; exact hM_put_eq
            · exact hM_put_ne hb
          rw [e2]
          simp only [gGet, e1, h3]
        · cases h
      · cases h
    · cases h
  case aastore =>
    simp only [gGet] at h
    split at h
    · rename_i v j b r
      split at h
      · rename_i t l c fs h2 h5
        split at h
        · rename_i y0 h3
          obtain ⟨h4, h6⟩ := cond_inv h
          cases h6
          have e1 : gNth (hM a k x M) b = some (.inl (t, .inr (.inr l))) := by
            by_cases hb : b = a
            · subst hb; exact hM_eq h2
            · rw [hM_ne hb]; exact h2
          have e3 : ∃ fs', gNth (hM a k x M) v = some (.inr (c, fs')) := by
            by_cases hb : v = a
            · subst hb; exact ⟨_, hM_eq h5⟩
            · exact ⟨fs, by rw [hM_ne hb]; exact h5⟩
          obtain ⟨fs', e3⟩ := e3
          have e2 : hM a k x (gPut M b (.inl (t, .inr (.inr (gPut l j.toNatClampNeg (some v)))))) = gPut (hM a k x M) b (.inl (t, .inr (.inr (gPut l j.toNatClampNeg (some v))))) := by
            by_cases hb : b = a
            · subst hb; exact hM_put_eq
            · exact hM_put_ne hb
          rw [e2]
          simp only [gGet, e1, e3, h3, h4, cond_true]
        · cases h
      · cases h
    · cases h
  case arraylength =>
    simp only [gGet] at h
    split at h
    · rename_i b r
      split at h
      · rename_i l h2
        cases h
        have e1 : ∃ l', gNth (hM a k x M) b = some (.inl (1, .inl l')) ∧ gLn l' = gLn l := by
          by_cases hb : b = a
          · subst hb; exact ⟨_, hM_eq h2, by rw [ln_eq, ln_eq, put_len]⟩
          · exact ⟨l, by rw [hM_ne hb]; exact h2, rfl⟩
        obtain ⟨l', e1, e2⟩ := e1
        simp only [gGet, e1, e2]
      · rename_i l h2
        cases h
        have e1 : ∃ l', gNth (hM a k x M) b = some (.inl (3, .inl l')) ∧ gLn l' = gLn l := by
          by_cases hb : b = a
          · subst hb; exact ⟨_, hM_eq h2, by rw [ln_eq, ln_eq, put_len]⟩
          · exact ⟨l, by rw [hM_ne hb]; exact h2, rfl⟩
        obtain ⟨l', e1, e2⟩ := e1
        simp only [gGet, e1, e2]
      · cases h
    · rename_i b r
      split at h
      · rename_i l h2
        cases h
        simp only [gGet, h2]
      · cases h
    · cases h
  all_goals (simp only [gGet] at h; cases h)
/-- the same locals, but for places that the run never reads -/
def LE (ls ls' : Lo) : Prop := ls.length = ls'.length ∧ ∀ i, (∀ v, gNth ls i = some (some v) → gNth ls' i = some (some v)) ∧ (gNth ls i = some none → ∃ w, gNth ls' i = some w ∧ ∀ v, w = some v → gC1 v = true)
theorem LE.refl (ls : Lo) : LE ls ls := ⟨rfl, fun i => ⟨fun v q => q, fun q => ⟨none, q, fun v q2 => (by cases q2)⟩⟩⟩
theorem LE.nil : LE [] [] := ⟨rfl, fun i => ⟨fun v h => (by cases h), fun h => (by cases h)⟩⟩
theorem LE.same {v : Option Value} {ls ls' : Lo} (h : LE ls ls') : LE (v :: ls) (v :: ls') := by
  refine ⟨by rw [List.length_cons, List.length_cons, h.1], fun i => ?_⟩
  cases i with
  | zero => exact ⟨fun v h => h, fun h => ⟨none, h, fun v q => (by cases q)⟩⟩
  | succ i => exact h.2 i
theorem LE.un {v : Value} (hv : gC1 v = true) {ls ls' : Lo} (h : LE ls ls') : LE (none :: ls) (some v :: ls') := by
  refine ⟨by rw [List.length_cons, List.length_cons, h.1], fun i => ?_⟩
  cases i with
  | zero => exact ⟨fun v h => (by cases h), fun _ => ⟨some v, rfl, fun w q => by cases q; exact hv⟩⟩
  | succ i => exact h.2 i
theorem LE.put {ls ls' : Lo} (h : LE ls ls') (k : Nat) (w : Option Value) : LE (gPut ls k w) (gPut ls' k w) := by
  refine ⟨by rw [put_len, put_len, h.1], fun i => ?_⟩
  rw [nth_put, nth_put, ← h.1]
  by_cases h1 : i = k ∧ k < ls.length
  · rw [if_pos h1, if_pos h1]
    exact ⟨fun v q => q, fun q => ⟨none, q, fun v q => (by cases q)⟩⟩
  · rw [if_neg h1, if_neg h1]
    exact h.2 i
theorem LE.has {ls ls' : Lo} (h : LE ls ls') {i : Nat} {w : Option Value} (hw : gNth ls i = some w) : ∃ w', gNth ls' i = some w' := by
  cases w with
  | none => obtain ⟨w', h1, -⟩ := (h.2 i).2 hw; exact ⟨w', h1⟩
  | some v => exact ⟨_, (h.2 i).1 v hw⟩
theorem LE.c1 {ls ls' : Lo} (h : LE ls ls') {α : Type} {i : Nat} {r : α} {w : Option Value} (hw : gNth ls i = some w) (hc : ∀ v, w = some v → gC1 v = true) : ∃ w', gNth ls' i = some w' ∧ ∀ v, w' = some v → gC1 v = true := by
  cases w with
  | none => exact (h.2 i).2 hw
  | some v => exact ⟨some v, (h.2 i).1 v hw, fun v2 q => by cases q; exact hc v rfl⟩
theorem st_hole {ls ls' ls2 : Lo} {k : Nat} {v : Value} (hL : LE ls ls') (h : gSt ls k v = some ls2) : ∃ ls2', gSt ls' k v = some ls2' ∧ LE ls2 ls2' := by
  unfold gSt at h
  cases h1 : gNth ls k with
  | none => rw [h1] at h; cases h
  | some w =>
    rw [h1] at h
    obtain ⟨w', h1'⟩ := hL.has h1
    dsimp only at h
    cases k with
    | zero =>
      dsimp only at h
      cases h
      exact ⟨_, by unfold gSt; rw [h1'], hL.put _ _⟩
    | succ j =>
      dsimp only at h
      cases h2 : gNth ls j with
      | none => exact absurd (gNth_in h1) (by
          rw [nth_eq] at h2
          have := List.getElem?_eq_none_iff.mp h2
          omega)
      | some u =>
        rw [h2] at h
        cases u with
        | none =>
          dsimp only at h
          cases h
          obtain ⟨u', h2', hc⟩ := (hL.2 j).2 h2
          refine ⟨gPut ls' (j + 1) (some v), ?_, hL.put _ _⟩
          unfold gSt
          rw [h1']
          dsimp only
          rw [h2']
          cases u' with
          | none => rfl
          | some u2 =>
            dsimp only
            rw [hc u2 rfl]
            rfl
        | some u =>
          dsimp only at h
          obtain ⟨h3, h4⟩ := cond_inv h
          cases h4
          refine ⟨gPut ls' (j + 1) (some v), ?_, hL.put _ _⟩
          unfold gSt
          rw [h1']
          dsimp only
          rw [(hL.2 j).1 u h2]
          dsimp only
          rw [h3]
          rfl
theorem st2_hole {ls ls' ls2 : Lo} {k : Nat} {v : Value} (hL : LE ls ls') (h : gSt2 ls k v = some ls2) : ∃ ls2', gSt2 ls' k v = some ls2' ∧ LE ls2 ls2' := by
  unfold gSt2 at h
  cases h1 : gNth ls (k + 1) with
  | none => rw [h1] at h; cases h
  | some w =>
    rw [h1] at h
    obtain ⟨w', h1'⟩ := hL.has h1
    dsimp only at h
    cases k with
    | zero =>
      dsimp only at h
      cases h
      exact ⟨_, by unfold gSt2; rw [h1'], (hL.put _ _).put _ _⟩
    | succ j =>
      dsimp only at h
      cases h2 : gNth ls j with
      | none => exact absurd (gNth_in h1) (by
          rw [nth_eq] at h2
          have := List.getElem?_eq_none_iff.mp h2
          omega)
      | some u =>
        rw [h2] at h
        cases u with
        | none =>
          dsimp only at h
          cases h
          obtain ⟨u', h2', hc⟩ := (hL.2 j).2 h2
          refine ⟨gPut (gPut ls' (j + 1) (some v)) (j + 2) none, ?_, (hL.put _ _).put _ _⟩
          unfold gSt2
          rw [h1']
          dsimp only
          rw [h2']
          cases u' with
          | none => rfl
          | some u2 =>
            dsimp only
            rw [hc u2 rfl]
            rfl
        | some u =>
          dsimp only at h
          obtain ⟨h3, h4⟩ := cond_inv h
          cases h4
          refine ⟨gPut (gPut ls' (j + 1) (some v)) (j + 2) none, ?_, (hL.put _ _).put _ _⟩
          unfold gSt2
          rw [h1']
          dsimp only
          rw [(hL.2 j).1 u h2]
          dsimp only
          rw [h3]
          rfl
theorem li_hole {ls ls' ls2 : Lo} {k : Nat} {st st2 : List Value} (hL : LE ls ls') (h : gLi ls k st = some (ls2, st2)) : ∃ ls2', gLi ls' k st = some (ls2', st2) ∧ LE ls2 ls2' := by
  unfold gLi at h
  split at h
  · rename_i x hx
    cases h
    exact ⟨ls', by unfold gLi; rw [(hL.2 k).1 _ hx], hL⟩
  · cases h
theorem ll_hole {ls ls' ls2 : Lo} {k : Nat} {st st2 : List Value} (hL : LE ls ls') (h : gLl ls k st = some (ls2, st2)) : ∃ ls2', gLl ls' k st = some (ls2', st2) ∧ LE ls2 ls2' := by
  unfold gLl at h
  split at h
  · rename_i x hx
    cases h
    exact ⟨ls', by unfold gLl; rw [(hL.2 k).1 _ hx], hL⟩
  · cases h
theorem la_hole {ls ls' ls2 : Lo} {k : Nat} {st st2 : List Value} (hL : LE ls ls') (h : gLa ls k st = some (ls2, st2)) : ∃ ls2', gLa ls' k st = some (ls2', st2) ∧ LE ls2 ls2' := by
  unfold gLa at h
  split at h
  · rename_i x hx
    cases h
    exact ⟨ls', by unfold gLa; rw [(hL.2 k).1 _ hx], hL⟩
  · rename_i x hx
    cases h
    exact ⟨ls', by unfold gLa; rw [(hL.2 k).1 _ hx], hL⟩
  · cases h
theorem si_hole {ls ls' ls2 : Lo} {k : Nat} {st st2 : List Value} (hL : LE ls ls') (h : gSi ls k st = some (ls2, st2)) : ∃ ls2', gSi ls' k st = some (ls2', st2) ∧ LE ls2 ls2' := by
  unfold gSi at h
  split at h
  · split at h
    · rename_i l hl
      cases h
      obtain ⟨l', h1, h2⟩ := st_hole hL hl
      exact ⟨l', by unfold gSi; dsimp only; rw [h1], h2⟩
    · cases h
  · cases h
theorem sa_hole {ls ls' ls2 : Lo} {k : Nat} {st st2 : List Value} (hL : LE ls ls') (h : gSa ls k st = some (ls2, st2)) : ∃ ls2', gSa ls' k st = some (ls2', st2) ∧ LE ls2 ls2' := by
  unfold gSa at h
  split at h
  · split at h
    · rename_i l hl
      cases h
      obtain ⟨l', h1, h2⟩ := st_hole hL hl
      exact ⟨l', by unfold gSa; dsimp only; rw [h1], h2⟩
    · cases h
  · cases h
theorem sl_hole {ls ls' ls2 : Lo} {k : Nat} {st st2 : List Value} (hL : LE ls ls') (h : gSl ls k st = some (ls2, st2)) : ∃ ls2', gSl ls' k st = some (ls2', st2) ∧ LE ls2 ls2' := by
  unfold gSl at h
  split at h
  · split at h
    · rename_i l hl
      cases h
      obtain ⟨l', h1, h2⟩ := st2_hole hL hl
      exact ⟨l', by unfold gSl; dsimp only; rw [h1], h2⟩
    · cases h
  · cases h
theorem loc_hole {i : Instr} {ls ls' ls2 : Lo} {st st2 : List Value} (hL : LE ls ls') (h : gLoc i ls st = some (ls2, st2)) : ∃ ls2', gLoc i ls' st = some (ls2', st2) ∧ LE ls2 ls2' := by
  cases i
  case iload_n k => exact li_hole hL h
  case iload k => exact li_hole hL h
  case lload_n k => exact ll_hole hL h
  case aload_n k => exact la_hole hL h
  case aload k => exact la_hole hL h
  case istore_n k => exact si_hole hL h
  case istore k => exact si_hole hL h
  case astore_n k => exact sa_hole hL h
  case astore k => exact sa_hole hL h
  case lstore_n k => exact sl_hole hL h
  case iinc k n =>
    simp only [gLoc] at h
    split at h
    · rename_i y hy
      split at h
      · rename_i l hl
        cases h
        obtain ⟨l', h1, h2⟩ := st_hole hL hl
        exact ⟨l', by simp only [gLoc, (hL.2 k).1 _ hy, h1], h2⟩
      · cases h
    · cases h
  all_goals (simp only [gLoc] at h; cases h)
/-- one step that doesn't look at place k of cell a, and makes nothing -/
noncomputable def gStepH (SA : Sta) (a k : Nat) (rec recM : Run) (d me pc : Nat) (ls : Lo) (st : List Value) (M : Mem) : Rs := match gNth mRs me with
  | none => none
  | some (o, _, _, _, ret, _, kf, tab) => match gLook tab pc with
    | none => none
    | some (kd, i) => match kd with
      | 0 => match gAlu i st with
        | some st' => rec d me (pc + gLen i) ls st' M
        | none => none
      | 1 => match gLoc i ls st with
        | some (ls', st') => rec d me (pc + gLen i) ls' st' M
        | none => none
      | 2 => match gJmp i pc st with
        | some (pc', st') => rec d me pc' ls st' M
        | none => none
      | 3 => cond (gOkG a k o i st) (match gGet i SA o (Nat.beq kf 2) st M with
        | some (st', M') => rec d me (pc + gLen i) ls st' M'
        | none => none) none
      | 4 => cond (gOkG a k o i st) (match gGet i SA o (Nat.beq kf 2) st M with
        | some (st', M') => recM d me (pc + gLen i) ls st' M'
        | none => none) none
      | 5 => none
      | 6 => match gRet ret i st with
        | some v => some (v, M, 0, 0)
        | none => none
      | _ => match d with
        | 0 => none
        | d' + 1 => cond (gOkI a o i st) (match gCal i o st M with
          | none => none
          | some (.inl (st', M')) => recM (d' + 1) me (pc + 3) ls st' M'
          | some (.inr (id, ls0, rest)) => gThen (rec d' id 0 ls0 [] M) (fun v M' c s => gAdd c s (rec (d' + 1) me (pc + 3) ls (v.toList ++ rest) M'))) none
noncomputable def goH (SA : Sta) (a k n : Nat) : Run := Nat.rec (motive := fun _ => Run) (fun _ _ _ _ _ _ => none) (fun _ ih => gStepH SA a k ih ih) n
noncomputable def goHF (SA : Sta) (a k n : Nat) : Run := Nat.rec (motive := fun _ => Run) (fun _ _ _ _ _ _ => none) (fun _ ih d me pc ls st M => gPc pc (fun pc => gStepH SA a k ih (fun d me pc ls st M => gSp M (fun M => ih d me pc ls st M)) d me pc ls st M)) n
theorem goHF_eq (SA : Sta) (a k : Nat) : ∀ n : Nat, goHF SA a k n = goH SA a k n := by
  intro n
  induction n with
  | zero => rfl
  | succ n ih =>
    funext d me pc ls st M
    show gPc pc (fun pc => gStepH SA a k (goHF SA a k n) (fun d me pc ls st M => gSp M (fun M => goHF SA a k n d me pc ls st M)) d me pc ls st M) = gStepH SA a k (goH SA a k n) (goH SA a k n) d me pc ls st M
    rw [gPc_eq]
    have h : (fun d me pc ls st M => gSp M (fun M => goHF SA a k n d me pc ls st M)) = goH SA a k n := by
      funext d me pc ls st M
      rw [gSp_eq, ih]
    rw [h, ih]
theorem goH_ok (SA : Sta) (a k e : Nat) (x : Int32) : ∀ (n d me pc : Nat) (ls ls' : Lo) (st : List Value) (M : Mem) (v : Option Value) (M' : Mem) (c s : Nat), LE ls ls' → goH SA a k n d me pc ls st M = some (v, M', c, s) → go SA n (d + e) me pc ls' st (hM a k x M) = some (v, hM a k x M', c, s) := by
  intro n
  induction n with
  | zero => intro d me pc ls ls' st M v M' c s hL h; cases h
  | succ n ih =>
    intro d me pc ls ls' st M v M' c s hL h0
    rw [go_succ]
    have h : gStepH SA a k (goH SA a k n) (goH SA a k n) d me pc ls st M = some (v, M', c, s) := h0
    clear h0
    unfold gStepH at h
    unfold gStep
    cases hrow : gNth mRs me with
    | none => rw [hrow] at h; cases h
    | some q =>
      obtain ⟨o, y9, cc9, mx9, ret, np9, kf, tab⟩ := q
      rw [hrow] at h
      dsimp only at h ⊢
      cases hlook : gLook tab pc with
      | none => rw [hlook] at h; cases h
      | some q =>
        obtain ⟨kd, i⟩ := q
        rw [hlook] at h
        dsimp only at h ⊢
        split at h
        · split at h
          · rename_i hg
            rw [hg]
            exact ih _ _ _ _ _ _ _ _ _ _ _ hL h
          · cases h
        · split at h
          · rename_i hg
            obtain ⟨l2, e1, e2⟩ := loc_hole hL hg
            rw [e1]
            exact ih _ _ _ _ _ _ _ _ _ _ _ e2 h
          · cases h
        · split at h
          · rename_i hg
            rw [hg]
            exact ih _ _ _ _ _ _ _ _ _ _ _ hL h
          · cases h
        · obtain ⟨hok, h⟩ := cond_inv h
          split at h
          · rename_i hg
            rw [get_hole hok hg]
            exact ih _ _ _ _ _ _ _ _ _ _ _ hL h
          · cases h
        · obtain ⟨hok, h⟩ := cond_inv h
          split at h
          · rename_i hg
            rw [get_hole hok hg]
            exact ih _ _ _ _ _ _ _ _ _ _ _ hL h
          · cases h
        · cases h
        · split at h
          · rename_i hg
            cases h
            rw [hg]
            rfl
          · cases h
        · split at h
          · cases h
          · rename_i n0 n1 n2 n3 n4 n5 n6 z d2
            obtain ⟨k2, rfl⟩ : ∃ k2, kd = k2 + 7 := by
              have m0 : kd ≠ 0 := n0
              have m1 : kd ≠ 1 := n1
              have m2 : kd ≠ 2 := n2
              have m3 : kd ≠ 3 := n3
              have m4 : kd ≠ 4 := n4
              have m5 : kd ≠ 5 := n5
              have m6 : kd ≠ 6 := n6
              exact ⟨kd - 7, by omega⟩
            obtain ⟨hok, h⟩ := cond_inv h
            have ed : d2 + 1 + e = (d2 + e) + 1 := by omega
            rw [ed]
            split at h
            · cases h
            · rename_i hg
              rw [cal_hole hok hg]
              have := ih (d2 + 1) _ _ _ _ _ _ _ _ _ _ hL h
              rw [ed] at this
              exact this
            · rename_i hg
              rw [cal_hole hok hg]
              obtain ⟨v1, M1, c1, s1, h1, h2⟩ := then_inv h
              obtain ⟨c2, s2, h3, h4, h5⟩ := add_inv h2
              have g1 := ih d2 _ _ _ _ _ _ _ _ _ _ (LE.refl _) h1
              have g2 := ih (d2 + 1) _ _ _ _ _ _ _ _ _ _ hL h3
              rw [ed] at g2
              show gThen (go SA n (d2 + e) _ 0 _ [] (hM a k x M)) _ = _
              rw [g1]
              show gAdd c1 s1 _ = _
              rw [g2, h4, h5]
              rfl
/-- a run over known numbers, at any place, whatever stands at place k of cell a and in the locals that it doesn't read -/
theorem Ev.hole {a k n d me pc : Nat} {ls ls' : Lo} {st : List Value} {M M' : Mem} {v : Option Value} {c s : Nat} (h : eqR (goHF none a k n d me pc ls st M) v M' c s = true) (hL : LE ls ls') (sc : Sta) (e : Nat) (x : Int32) : Ev sc (e + d) me pc ls' st (hM a k x M) v (hM a k x M') c s := by
  have h1 := eqR_eq h
  rw [goHF_eq] at h1
  rw [Nat.add_comm e d]
  exact ⟨n, go_sc sc _ _ _ _ _ _ _ _ (goH_ok none a k e x _ _ _ _ _ _ _ _ _ _ _ _ hL h1)⟩
/-- the same, its end memory left open -/
theorem Ev.holeX {a k n d me pc : Nat} {ls ls' : Lo} {st : List Value} {M : Mem} {v : Option Value} (h : okR (goHF none a k n d me pc ls st M) v = true) (hL : LE ls ls') (sc : Sta) (e : Nat) (x : Int32) : ∃ M1, Ev sc (e + d) me pc ls' st (hM a k x M) v M1 0 0 := by
  rw [Nat.add_comm e d]
  cases hr : goHF none a k n d me pc ls st M with
  | none => rw [hr] at h; cases h
  | some q =>
    obtain ⟨w, M', c, s⟩ := q
    rw [hr] at h
    unfold okR at h
    rw [Bool.and_eq_true, Bool.and_eq_true] at h
    obtain ⟨h1, h2, h3⟩ := h
    have e2 := Nat.eq_of_beq_eq_true h2
    have e3 := Nat.eq_of_beq_eq_true h3
    subst e2 e3
    have e1 : w = v := by
      cases v with
      | none => cases w with
        | none => rfl
        | some y => cases h1
      | some y => cases w with
        | none => cases h1
        | some y2 => rw [of_decide_eq_true h1]
    subst e1
    rw [goHF_eq] at hr
    exact ⟨_, n, go_sc sc _ _ _ _ _ _ _ _ (goH_ok none a k e x _ _ _ _ _ _ _ _ _ _ _ _ hL hr)⟩
/-- over known numbers alone, some locals left open -/
theorem Ev.plain {n d me pc : Nat} {ls ls' : Lo} {st : List Value} {M M' : Mem} {v : Option Value} {c s : Nat} (h : eqR (goHF none 99999 0 n d me pc ls st M) v M' c s = true) (hL : LE ls ls') (hl : Nat.ble (gLn M) 99999 = true) (hl2 : Nat.ble (gLn M') 99999 = true) (sc : Sta) (e : Nat) : Ev sc (e + d) me pc ls' st M v M' c s := by
  have h1 := Ev.hole h hL sc e 0
  have e1 := Nat.le_of_ble_eq_true hl
  have e2 := Nat.le_of_ble_eq_true hl2
  rw [ln_eq] at e1 e2
  rw [hM_out e1, hM_out e2] at h1
  exact h1
