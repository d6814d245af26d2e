/-! SOUNDNESS, the first third: the stack, the locals, the branches. rV: what a number of the abstract machine stands for: cells lie from B on; rows that were there before lie at sa. -/
def rV (B : Nat) (sa : Nat → Nat) (v : Value) : Value := match v with
  | .ref a => .ref (B + a)
  | .retAddr j => .ref (sa j)
  | v => v
theorem rV_cat (B : Nat) (sa : Nat → Nat) (v : Value) : (rV B sa v).category = v.category := by cases v <;> rfl
theorem gC1_of {v : Value} (B : Nat) (sa : Nat → Nat) (h : gC1 v = true) : (rV B sa v).category = 1 := by
  rw [rV_cat]
  exact Nat.eq_of_beq_eq_true h
theorem nth_eq {α : Type} : ∀ (l : List α) (i : Nat), gNth l i = l[i]? := by
  intro l
  induction l with
  | nil => intro i; rfl
  | cons x xs ih =>
    intro i
    cases i with
    | zero => rfl
    | succ i => exact (ih i).trans (List.getElem?_cons_succ).symm
theorem put_eq {α : Type} : ∀ (l : List α) (i : Nat) (v : α), gPut l i v = l.set i v := by
  intro l
  induction l with
  | nil => intro i v; rfl
  | cons x xs ih =>
    intro i v
    cases i with
    | zero => rfl
    | succ i => exact congrArg (fun t => x :: t) (ih i v)
theorem ln_eq {α : Type} : ∀ (l : List α), gLn l = l.length := by
  intro l
  induction l with
  | nil => rfl
  | cons x xs ih => exact congrArg Nat.succ ih
theorem rep_eq {α : Type} (v : α) : ∀ n : Nat, gRep n v = List.replicate n v := by
  intro n
  induction n with
  | zero => rfl
  | succ n ih => exact congrArg (fun t => v :: t) ih
/-- the machine's locals hold what the abstract ones say -/
def LV (B : Nat) (sa : Nat → Nat) (nL : Nat) (vs : Lo) (ls : Array Slot) : Prop := vs.length = nL ∧ ∃ l : List (Nat × Value), lv_has ls nL l ∧ ∀ (i : Nat) (v : Value), gNth vs i = some (some v) → (i, rV B sa v) ∈ l
theorem LV.at {B : Nat} {sa : Nat → Nat} {nL : Nat} {vs : Lo} {ls : Array Slot} (h : LV B sa nL vs ls) {i : Nat} {v : Value} (hv : gNth vs i = some (some v)) : ls[i]? = some (.val (rV B sa v)) := by
  obtain ⟨-, l, h1, h2⟩ := h
  exact h1.2.2 _ (h2 i v hv)
theorem put_len {α : Type} (l : List α) (i : Nat) (v : α) : (gPut l i v).length = l.length := by rw [put_eq, List.length_set]
theorem nth_put {α : Type} (l : List α) (i j : Nat) (v : α) : gNth (gPut l i v) j = if j = i ∧ i < l.length then some v else gNth l j := by
  rw [nth_eq, put_eq, nth_eq, List.getElem?_set]
  by_cases h : i = j
  · subst h
    by_cases hl : i < l.length
    · simp [hl]
    · simp [hl]
  · have : ¬ j = i := fun e => h e.symm
    simp [h, this]
theorem LV.st {B : Nat} {sa : Nat → Nat} {nL : Nat} {vs vs' : Lo} {ls' : Array Slot} {l : List (Nat × Value)} {k : Nat} {v : Value} (hn : vs.length = nL) (hm : ∀ (i : Nat) (v : Value), gNth vs i = some (some v) → (i, rV B sa v) ∈ l) (hg : gSt vs k v = some vs')
    (h' : lv_has ls' nL ((k, rV B sa v) :: l.filter (fun q => !(q.1 == k) && !(q.1 + 1 == k && q.2.category == 2)))) : LV B sa nL vs' ls' := by
  have hk : k < vs.length := by
    unfold gSt at hg
    split at hg
    · cases hg
    · rename_i h9
      exact gNth_lt _ _ _ h9
  have e : vs' = gPut vs k (some v) ∧ (∀ j w, k = j + 1 → gNth vs j = some (some w) → w.category = 1) := by
    unfold gSt at hg
    split at hg
    · cases hg
    · split at hg
      · cases hg
        exact ⟨rfl, fun j w h => by omega⟩
      · split at hg
        · rename_i w hw
          cases hc : gC1 w with
          | false => rw [hc] at hg; cases hg
          | true =>
            rw [hc] at hg
            cases hg
            exact ⟨rfl, fun j' w' h1 h2 => by
              cases h1
              rw [hw] at h2
              cases h2
              exact Nat.eq_of_beq_eq_true hc⟩
        · rename_i hw
          cases hg
          exact ⟨rfl, fun j' w' h1 h2 => by
            cases h1
            exact absurd h2 (hw w')⟩
  obtain ⟨rfl, hp⟩ := e
  refine ⟨by rw [put_len]; exact hn, _, h', fun i w hw => ?_⟩
  rw [nth_put] at hw
  by_cases hik : i = k
  · subst hik
    rw [if_pos ⟨rfl, hk⟩] at hw
    cases hw
    exact List.mem_cons_self
  · rw [if_neg (fun q => hik q.1)] at hw
    refine List.mem_cons_of_mem _ (List.mem_filter.mpr ⟨hm i w hw, ?_⟩)
    show (!(i == k) && !(i + 1 == k && (rV B sa w).category == 2)) = true
    by_cases h1 : i + 1 = k
    · have hc := hp i w h1.symm hw
      rw [rV_cat, hc]
      simp [hik]
    · simp [hik, h1]
theorem LV.st2 {B : Nat} {sa : Nat → Nat} {nL : Nat} {vs vs' : Lo} {ls' : Array Slot} {l : List (Nat × Value)} {k : Nat} {v : Value} (hn : vs.length = nL) (hm : ∀ (i : Nat) (v : Value), gNth vs i = some (some v) → (i, rV B sa v) ∈ l) (hg : gSt2 vs k v = some vs')
    (h' : lv_has ls' nL ((k, rV B sa v) :: l.filter (fun q => !(q.1 == k) && (!(q.1 == k + 1) && !(q.1 + 1 == k && q.2.category == 2))))) : LV B sa nL vs' ls' ∧ k + 1 < nL := by
  have hk : k + 1 < vs.length := by
    unfold gSt2 at hg
    split at hg
    · cases hg
    · rename_i h9
      exact gNth_lt _ _ _ h9
  have e : vs' = gPut (gPut vs k (some v)) (k + 1) none ∧ (∀ j w, k = j + 1 → gNth vs j = some (some w) → w.category = 1) := by
    unfold gSt2 at hg
    split at hg
    · cases hg
    · split at hg
      · cases hg
        exact ⟨rfl, fun j w h => by omega⟩
      · split at hg
        · rename_i w hw
          cases hc : gC1 w with
          | false => rw [hc] at hg; cases hg
          | true =>
            rw [hc] at hg
            cases hg
            exact ⟨rfl, fun j' w' h1 h2 => by
              cases h1
              rw [hw] at h2
              cases h2
              exact Nat.eq_of_beq_eq_true hc⟩
        · rename_i hw
          cases hg
          exact ⟨rfl, fun j' w' h1 h2 => by
            cases h1
            exact absurd h2 (hw w')⟩
  obtain ⟨rfl, hp⟩ := e
  refine ⟨⟨by rw [put_len, put_len]; exact hn, _, h', fun i w hw => ?_⟩, by omega⟩
  rw [nth_put] at hw
  by_cases hi2 : i = k + 1
  · rw [if_pos ⟨hi2, by rw [put_len]; omega⟩] at hw
    cases hw
  · rw [if_neg (fun q => hi2 q.1), nth_put] at hw
    by_cases hik : i = k
    · subst hik
      rw [if_pos ⟨rfl, by omega⟩] at hw
      cases hw
      exact List.mem_cons_self
    · rw [if_neg (fun q => hik q.1)] at hw
      refine List.mem_cons_of_mem _ (List.mem_filter.mpr ⟨hm i w hw, ?_⟩)
      show (!(i == k) && (!(i == k + 1) && !(i + 1 == k && (rV B sa w).category == 2))) = true
      by_cases h1 : i + 1 = k
      · have hc := hp i w h1.symm hw
        rw [rV_cat, hc]
        simp [hik, hi2]
      · simp [hik, hi2, h1]
section SNA
variable {p : Program} {l : Launch} {e : Env} {R : Room} {s : State} {m : MethodId} {args : Array Value} {below : List Frame} {meth : Method} {c : Code} {H : Heap} {locs : List Loc} {cells slots : Nat} {Q : State → Prop} {cc : ByteArray} {pc : Nat} {ls : Array Slot} {B : Nat} {sa : Nat → Nat}
set_option maxHeartbeats 4000000 in
theorem alu_ok (hx : p.tables.exec = Jvm.exec) (hb : c.code = cc) {i : Instr} {st st' : List Value} (hdg : decode cc pc = .ok (i, gLen i)) (h : gAlu i st = some st') (k : W p l e R s m args below meth c H locs cells slots Q (F0 m (pc + gLen i) ls (st'.map (rV B sa)))) : W p l e R s m args below meth c H locs cells slots Q (F0 m pc ls (st.map (rV B sa))) := by
  cases i
  case iconst n =>
    cases h
    exact lv_iconst hx hb hdg rfl k
  case bipush n =>
    cases h
    exact lv_bipush hx hb hdg rfl k
  case sipush n =>
    cases h
    exact lv_sipush hx hb hdg rfl k
  case lconst n =>
    cases h
    exact lv_lconst hx hb hdg rfl k
  case iadd =>
    simp only [gAlu] at h
    split at h
    · cases h
      exact lv_iadd hx hb hdg k
    · cases h
  case isub =>
    simp only [gAlu] at h
    split at h
    · cases h
      exact lv_isub hx hb hdg k
    · cases h
  case imul =>
    simp only [gAlu] at h
    split at h
    · cases h
      exact lv_imul hx hb hdg k
    · cases h
  case ineg =>
    simp only [gAlu] at h
    split at h
    · cases h
      exact lv_ineg hx hb hdg k
    · cases h
  case iand =>
    simp only [gAlu] at h
    split at h
    · cases h
      exact lv_iand hx hb hdg k
    · cases h
  case ior =>
    simp only [gAlu] at h
    split at h
    · cases h
      exact lv_ior hx hb hdg k
    · cases h
  case ixor =>
    simp only [gAlu] at h
    split at h
    · cases h
      exact lv_ixor hx hb hdg k
    · cases h
  case ishl =>
    simp only [gAlu] at h
    split at h
    · cases h
      exact lv_ishl hx hb hdg k
    · cases h
  case ishr =>
    simp only [gAlu] at h
    split at h
    · cases h
      exact lv_ishr hx hb hdg k
    · cases h
  case ladd =>
    simp only [gAlu] at h
    split at h
    · cases h
      exact lv_ladd hx hb hdg k
    · cases h
  case lsub =>
    simp only [gAlu] at h
    split at h
    · cases h
      exact lv_lsub hx hb hdg k
    · cases h
  case land =>
    simp only [gAlu] at h
    split at h
    · cases h
      exact lv_land hx hb hdg k
    · cases h
  case lor =>
    simp only [gAlu] at h
    split at h
    · cases h
      exact lv_lor hx hb hdg k
    · cases h
  case lxor =>
    simp only [gAlu] at h
    split at h
    · cases h
      exact lv_lxor hx hb hdg k
    · cases h
  case iushr =>
    simp only [gAlu] at h
    split at h
    · cases h
      exact lv_iushr hx hb hdg rfl k
    · cases h
  case lshl =>
    simp only [gAlu] at h
    split at h
    · cases h
      exact lv_lshl hx hb hdg rfl k
    · cases h
  case lushr =>
    simp only [gAlu] at h
    split at h
    · cases h
      exact lv_lushr hx hb hdg rfl k
    · cases h
  case i2l =>
    simp only [gAlu] at h
    split at h
    · cases h
      exact lv_i2l hx hb hdg rfl k
    · cases h
  case l2i =>
    simp only [gAlu] at h
    split at h
    · cases h
      exact lv_l2i hx hb hdg rfl k
    · cases h
  case i2b =>
    simp only [gAlu] at h
    split at h
    · cases h
      exact lv_i2b hx hb hdg rfl k
    · cases h
  case i2c =>
    simp only [gAlu] at h
    split at h
    · cases h
      exact lv_i2c hx hb hdg rfl k
    · cases h
  case idiv =>
    simp only [gAlu] at h
    split at h
    · split at h
      · cases h
      · rename_i hne
        cases h
        exact lv_idiv hx hb hdg hne k
    · cases h
  case irem =>
    simp only [gAlu] at h
    split at h
    · split at h
      · cases h
      · rename_i hne
        cases h
        exact lv_irem hx hb hdg hne k
    · cases h
  case lcmp =>
    simp only [gAlu] at h
    split at h
    · cases h
      exact W.lcmp hx hb hdg k
    · cases h
  case dup =>
    simp only [gAlu] at h
    split at h
    · rename_i v r
      cases hc : gC1 v with
      | false => rw [hc] at h; cases h
      | true =>
        rw [hc] at h
        cases h
        exact lv_dup hx hb hdg (gC1_of B sa hc) k
    · cases h
  case pop =>
    simp only [gAlu] at h
    split at h
    · rename_i v r
      cases hc : gC1 v with
      | false => rw [hc] at h; cases h
      | true =>
        rw [hc] at h
        cases h
        exact lv_pop hx hb hdg (gC1_of B sa hc) k
    · cases h
  case dup_x1 =>
    simp only [gAlu] at h
    split at h
    · rename_i v w r
      cases hc : gC1 v with
      | false => rw [hc] at h; cases h
      | true =>
        cases hc2 : gC1 w with
        | false => rw [hc, hc2] at h; cases h
        | true =>
          rw [hc, hc2] at h
          cases h
          exact lv_dup_x1 hx hb hdg (gC1_of B sa hc) (gC1_of B sa hc2) k
    · cases h
  case dup2 =>
    simp only [gAlu] at h
    split at h
    · rename_i v w r
      cases hc : gC1 v with
      | false => rw [hc] at h; cases h
      | true =>
        cases hc2 : gC1 w with
        | false => rw [hc, hc2] at h; cases h
        | true =>
          rw [hc, hc2] at h
          cases h
          exact lv_dup2_11 hx hb hdg (gC1_of B sa hc) (gC1_of B sa hc2) k
    · cases h
  all_goals (simp only [gAlu] at h; cases h)
set_option maxHeartbeats 4000000 in
theorem loc_ok (hx : p.tables.exec = Jvm.exec) (hb : c.code = cc) {i : Instr} {nL : Nat} {vs vs' : Lo} {st st' : List Value} (hdg : decode cc pc = .ok (i, gLen i)) (hL : LV B sa nL vs ls) (h : gLoc i vs st = some (vs', st')) (k : ∀ ls' : Array Slot, LV B sa nL vs' ls' → W p l e R s m args below meth c H locs cells slots Q (F0 m (pc + gLen i) ls' (st'.map (rV B sa)))) : W p l e R s m args below meth c H locs cells slots Q (F0 m pc ls (st.map (rV B sa))) := by
  cases i
  case iload_n j =>
    simp only [gLoc, gLi] at h
    split at h
    · rename_i x hv
      cases h
      exact lv_iload_n hx hb hdg rfl (hL.at hv) (k _ hL)
    · cases h
  case iload j =>
    simp only [gLoc, gLi] at h
    split at h
    · rename_i x hv
      cases h
      exact lv_iload hx hb hdg (hL.at hv) (k _ hL)
    · cases h
  case lload_n j =>
    simp only [gLoc, gLl] at h
    split at h
    · rename_i x hv
      cases h
      exact lv_lload_n hx hb hdg rfl (hL.at hv) (k _ hL)
    · cases h
  case aload_n j =>
    simp only [gLoc, gLa] at h
    split at h
    · rename_i x hv
      cases h
      exact lv_aload_n hx hb hdg rfl (hL.at hv) (k _ hL)
    · rename_i x hv
      cases h
      exact lv_aload_n hx hb hdg rfl (hL.at hv) (k _ hL)
    · cases h
  case aload j =>
    simp only [gLoc, gLa] at h
    split at h
    · rename_i x hv
      cases h
      exact lv_aload hx hb hdg (hL.at hv) (k _ hL)
    · rename_i x hv
      cases h
      exact lv_aload hx hb hdg (hL.at hv) (k _ hL)
    · cases h
  case istore_n j =>
    simp only [gLoc, gSi] at h
    split at h
    · split at h
      · rename_i x r l9 hg
        cases h
        obtain ⟨hn, l0, h1, h2⟩ := id hL
        have hk : (j : Nat) < vs.length := by
          unfold gSt at hg
          split at hg
          · cases hg
          · rename_i h9
            exact gNth_lt _ _ _ h9
        exact lv_istore_n hx hb hdg rfl h1 (by rw [← hn]; exact hk) rfl (fun ls' hl' => k ls' (LV.st hn h2 hg hl'))
      · cases h
    · cases h
  case istore j =>
    simp only [gLoc, gSi] at h
    split at h
    · split at h
      · rename_i x r l9 hg
        cases h
        obtain ⟨hn, l0, h1, h2⟩ := id hL
        have hk : (j : Nat) < vs.length := by
          unfold gSt at hg
          split at hg
          · cases hg
          · rename_i h9
            exact gNth_lt _ _ _ h9
        exact lv_istore hx hb hdg h1 (by rw [← hn]; exact hk) rfl (fun ls' hl' => k ls' (LV.st hn h2 hg hl'))
      · cases h
    · cases h
  case astore_n j =>
    simp only [gLoc, gSa] at h
    split at h
    · split at h
      · rename_i x r l9 hg
        cases h
        obtain ⟨hn, l0, h1, h2⟩ := id hL
        have hk : (j : Nat) < vs.length := by
          unfold gSt at hg
          split at hg
          · cases hg
          · rename_i h9
            exact gNth_lt _ _ _ h9
        exact lv_astore_n hx hb hdg rfl h1 (by rw [← hn]; exact hk) rfl (fun ls' hl' => k ls' (LV.st hn h2 hg hl'))
      · cases h
    · cases h
  case astore j =>
    simp only [gLoc, gSa] at h
    split at h
    · split at h
      · rename_i x r l9 hg
        cases h
        obtain ⟨hn, l0, h1, h2⟩ := id hL
        have hk : (j : Nat) < vs.length := by
          unfold gSt at hg
          split at hg
          · cases hg
          · rename_i h9
            exact gNth_lt _ _ _ h9
        exact lv_astore hx hb hdg h1 (by rw [← hn]; exact hk) rfl (fun ls' hl' => k ls' (LV.st hn h2 hg hl'))
      · cases h
    · cases h
  case lstore_n j =>
    simp only [gLoc, gSl] at h
    split at h
    · split at h
      · rename_i x r l9 hg
        cases h
        obtain ⟨hn, l0, h1, h2⟩ := id hL
        have hk : (j : Nat) + 1 < vs.length := by
          unfold gSt2 at hg
          split at hg
          · cases hg
          · rename_i h9
            exact gNth_lt _ _ _ h9
        exact lv_lstore_n hx hb hdg rfl h1 (by rw [← hn]; exact hk) rfl (fun ls' hl' => k ls' (LV.st2 hn h2 hg hl').1)
      · cases h
    · cases h
  case iinc j n =>
    simp only [gLoc] at h
    split at h
    · split at h
      · rename_i x hv q9 l9 hg
        cases h
        obtain ⟨hn, l0, h1, h2⟩ := id hL
        have hk : j < vs.length := gNth_lt _ _ _ hv
        obtain ⟨q, hq⟩ := List.getElem?_of_mem (h2 j _ hv)
        exact lv_iinc hx hb hdg h1 hq rfl (by rw [← hn]; exact hk) rfl (fun ls' hl' => k ls' (LV.st hn h2 hg hl'))
      · cases h
    · cases h
  all_goals (simp only [gLoc] at h; cases h)
theorem gP_of {pc : Nat} {off : Int} (h : gP pc off = true) : (pc : Int) + off = (gT pc off : Int) := by
  unfold gP at h
  unfold gT
  cases hz : (pc : Int) + off with
  | ofNat n => simp
  | negSucc n => rw [hz] at h; cases h
set_option maxHeartbeats 4000000 in
theorem jmp_ok (hx : p.tables.exec = Jvm.exec) (hb : c.code = cc) {i : Instr} {st st' : List Value} {pc' n9 : Nat} (hdg : decode cc pc = .ok (i, n9)) (h9 : (∃ d lo hi offs, i = .tableswitch d lo hi offs) ∨ (∃ d ps, i = .lookupswitch d ps) ∨ n9 = gLen i) (h : gJmp i pc st = some (pc', st')) (k : W p l e R s m args below meth c H locs cells slots Q (F0 m pc' ls (st'.map (rV B sa)))) : W p l e R s m args below meth c H locs cells slots Q (F0 m pc ls (st.map (rV B sa))) := by
  cases i
  case goto off =>
    obtain rfl : n9 = 3 := by
      rcases h9 with ⟨d, lo, hi, offs, h9⟩ | ⟨d, ps, h9⟩ | h9
      · cases h9
      · cases h9
      · exact h9
    simp only [gJmp] at h
    cases hg : gP pc off with
    | false => rw [hg] at h; cases h
    | true =>
      rw [hg] at h
      cases h
      exact lv_goto hx hb hdg (gP_of hg) k
  case ifCond op off =>
    obtain rfl : n9 = 3 := by
      rcases h9 with ⟨d, lo, hi, offs, h9⟩ | ⟨d, ps, h9⟩ | h9
      · cases h9
      · cases h9
      · exact h9
    simp only [gJmp] at h
    split at h
    · cases hg : gP pc off with
      | false => rw [hg] at h; cases h
      | true =>
        rw [hg] at h
        cases op
        case eq =>
          cases h
          dsimp only at k
          exact lv_if_eq hx hb hdg (gP_of hg) (fun q => by rw [if_pos q] at k; exact k) (fun q => by rw [if_neg q] at k; exact k)
        case ne =>
          cases h
          dsimp only at k
          exact lv_if_ne hx hb hdg (gP_of hg) (fun q => by rw [if_neg q] at k; exact k) (fun q => by rw [if_pos q] at k; exact k)
        case lt =>
          cases h
          dsimp only at k
          exact lv_if_lt hx hb hdg (gP_of hg) (fun q => by rw [if_pos q] at k; exact k) (fun q => by rw [if_neg q] at k; exact k)
        case ge =>
          cases h
          dsimp only at k
          exact lv_if_ge hx hb hdg (gP_of hg) (fun q => by rw [if_pos q] at k; exact k) (fun q => by rw [if_neg q] at k; exact k)
        case gt =>
          cases h
          dsimp only at k
          exact lv_if_gt hx hb hdg (gP_of hg) (fun q => by rw [if_pos q] at k; exact k) (fun q => by rw [if_neg q] at k; exact k)
        case le =>
          cases h
          dsimp only at k
          exact lv_if_le hx hb hdg (gP_of hg) (fun q => by rw [if_pos q] at k; exact k) (fun q => by rw [if_neg q] at k; exact k)
    · cases h
  case if_icmp op off =>
    obtain rfl : n9 = 3 := by
      rcases h9 with ⟨d, lo, hi, offs, h9⟩ | ⟨d, ps, h9⟩ | h9
      · cases h9
      · cases h9
      · exact h9
    simp only [gJmp] at h
    split at h
    · cases hg : gP pc off with
      | false => rw [hg] at h; cases h
      | true =>
        rw [hg] at h
        cases op
        case eq =>
          cases h
          dsimp only at k
          exact lv_icmp_eq hx hb hdg (gP_of hg) (fun q => by rw [if_pos q] at k; exact k) (fun q => by rw [if_neg q] at k; exact k)
        case ne =>
          cases h
          dsimp only at k
          exact lv_icmp_ne hx hb hdg (gP_of hg) (fun q => by rw [if_neg q] at k; exact k) (fun q => by rw [if_pos q] at k; exact k)
        case lt =>
          cases h
          dsimp only at k
          exact lv_icmp_lt hx hb hdg (gP_of hg) (fun q => by rw [if_pos q] at k; exact k) (fun q => by rw [if_neg q] at k; exact k)
        case ge =>
          cases h
          dsimp only at k
          exact lv_icmp_ge hx hb hdg (gP_of hg) (fun q => by rw [if_pos q] at k; exact k) (fun q => by rw [if_neg q] at k; exact k)
        case gt =>
          cases h
          dsimp only at k
          exact lv_icmp_gt hx hb hdg (gP_of hg) (fun q => by rw [if_pos q] at k; exact k) (fun q => by rw [if_neg q] at k; exact k)
        case le =>
          cases h
          dsimp only at k
          exact lv_icmp_le hx hb hdg (gP_of hg) (fun q => by rw [if_pos q] at k; exact k) (fun q => by rw [if_neg q] at k; exact k)
    · cases h
  case tableswitch d lo hi offs =>
    simp only [gJmp] at h
    split at h
    · rename_i x r
      cases hg : (gP pc d && offs.toList.all (gP pc) && decide (hi - lo + 1 = (offs.size : Int))) with
      | false => rw [hg] at h; cases h
      | true =>
        rw [hg] at h
        cases h
        simp only [Bool.and_eq_true, decide_eq_true_eq] at hg
        obtain ⟨⟨g1, g2⟩, g3⟩ := hg
        by_cases q : x.toInt < lo ∨ hi < x.toInt
        · rw [if_pos q] at k
          exact lv_tableOut hx hb hdg q (gP_of g1) k
        · rw [if_neg q] at k
          have q1 : ¬ x.toInt < lo := fun z => q (Or.inl z)
          have q2 : ¬ hi < x.toInt := fun z => q (Or.inr z)
          have hlt : (x.toInt - lo).toNat < offs.toList.length := by
            rw [Array.length_toList]
            omega
          have ho : offs[(x.toInt - lo).toNat]? = some (offs.toList.getD (x.toInt - lo).toNat 0) := by
            rw [← Array.getElem?_toList, List.getElem?_eq_getElem hlt, List.getD_eq_getElem?_getD, List.getElem?_eq_getElem hlt]
            rfl
          have hm : offs.toList.getD (x.toInt - lo).toNat 0 ∈ offs.toList := by
            rw [List.getD_eq_getElem?_getD, List.getElem?_eq_getElem hlt]
            exact List.getElem_mem hlt
          exact lv_tableIn hx hb hdg q1 q2 ho (gP_of (List.all_eq_true.mp g2 _ hm)) k
    · cases h
  case lookupswitch d ps =>
    simp only [gJmp] at h
    split at h
    · rename_i x r
      cases hg : (gP pc d && ps.toList.all (fun q => gP pc q.2) && (ps.toList.zip (ps.toList.drop 1)).all (fun (a, next) => a.1 < next.1)) with
      | false => rw [hg] at h; cases h
      | true =>
        rw [hg] at h
        cases h
        simp only [Bool.and_eq_true] at hg
        obtain ⟨⟨g1, g2⟩, g3⟩ := hg
        have hoff : ∀ (l : List (Int × Int)), l.all (fun q => gP pc q.2) = true → gP pc (Op.lookupswitch.offset l d x.toInt) = true := by
          intro l
          induction l with
          | nil => intro _; exact g1
          | cons y ys ih =>
            intro hl
            rw [List.all_cons, Bool.and_eq_true] at hl
            unfold Op.lookupswitch.offset
            split
            · exact hl.1
            · exact ih hl.2
        exact lv_lookup hx hb hdg g3 rfl (gP_of (hoff _ g2)) k
    · cases h
  all_goals (simp only [gJmp] at h; cases h)
end SNA
