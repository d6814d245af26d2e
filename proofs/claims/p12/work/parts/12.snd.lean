/-! SOUNDNESS: what `go` answers, the machine answers -/
theorem cond_inv {α : Type} {b : Bool} {x : Option α} {y : α} (h : cond b x none = some y) : b = true ∧ x = some y := by
  cases b with
  | false => cases h
  | true => exact ⟨rfl, h⟩
theorem get_len {SA : Sta} {o : Nat} {ini : Bool} {i : Instr} {st st' : List Value} {M M' : Mem} (h : gGet i SA o ini st M = some (st', M')) : M'.length = M.length := by
  cases i
  all_goals first | (simp only [gGet] at h; cases h; done) | skip
  all_goals
    simp only [gGet] at h
    repeat' split at h
    all_goals first | (cases h; done) | (cases h; rfl) | (cases h; exact put_len _ _ _) | skip
    all_goals (obtain ⟨-, h⟩ := cond_inv h; cases h; first | rfl | exact put_len _ _ _)
theorem nat_len {id : Nat} {st st' : List Value} {M M' : Mem} (h : gNat id st M = some (st', M')) : M'.length = M.length := by
  unfold gNat at h
  split at h
  all_goals dsimp only at h
  all_goals repeat' split at h
  all_goals first | (cases h; done) | (cases h; rfl) | (cases h; exact put_len _ _ _) | skip
  all_goals (obtain ⟨-, h⟩ := cond_inv h; first | (cases h; done) | (cases h; rfl) | (cases h; exact put_len _ _ _))
theorem new_len {o : Nat} {i : Instr} {st st' : List Value} {M M' : Mem} {c s : Nat} (h : gNew i o st M = some (st', M', c, s)) : M'.length = M.length + c := by
  cases i
  all_goals first | (simp only [gNew] at h; cases h; done) | skip
  all_goals
    simp only [gNew] at h
    repeat' split at h
    all_goals first | (cases h; done) | (cases h; rw [List.length_append]; rfl) | skip
    all_goals (obtain ⟨-, h⟩ := cond_inv h; cases h; rw [List.length_append]; first | rfl | (rw [List.length_cons, rep_len]; omega))
theorem add_inv {c s c0 s0 : Nat} {r : Rs} {v : Option Value} {M : Mem} (h : gAdd c s r = some (v, M, c0, s0)) : ∃ c1 s1, r = some (v, M, c1, s1) ∧ c0 = c + c1 ∧ s0 = s + s1 := by
  unfold gAdd at h
  split at h
  · cases h
    exact ⟨_, _, rfl, rfl, rfl⟩
  · cases h
theorem then_inv {r : Rs} {k : Option Value → Mem → Nat → Nat → Rs} {x : Option Value × Mem × Nat × Nat} (h : gThen r k = some x) : ∃ v M c s, r = some (v, M, c, s) ∧ k v M c s = some x := by
  unfold gThen at h
  split at h
  · exact ⟨_, _, _, _, rfl, h⟩
  · cases h
theorem calk_len {o ix kind : Nat} {st : List Value} {M : Mem} {q : List Value × Mem} (h : gCalk o ix kind st M = some (.inl q)) : ∃ id nest wi, gOwn mRes o ix = some (id, nest, wi) ∧ Nat.ble 1000 id = true ∧ gNat id st M = some q ∧ kind = cond (Nat.beq id 1000) 2 (cond (Nat.ble 1006 id) 1 0) ∧ gRoom q.1 = true := by
  unfold gCalk at h
  split at h
  · cases h
  · rename_i id nest wi hr
    split at h
    · rename_i hble
      split at h
      · rename_i q9 hq
        cases hg : (Nat.beq kind (cond (Nat.beq id 1000) 2 (cond (Nat.ble 1006 id) 1 0)) && gRoom q9.1) with
        | false => rw [hg] at h; cases h
        | true =>
          rw [hg] at h
          cases h
          rw [Bool.and_eq_true] at hg
          exact ⟨id, nest, wi, hr, hble, hq, Nat.eq_of_beq_eq_true hg.1, hg.2⟩
      · cases h
    · split at h
      · cases h
      · split at h
        · obtain ⟨-, h⟩ := cond_inv h
          cases h
        · split at h
          · obtain ⟨-, h⟩ := cond_inv h
            cases h
          · cases h
theorem cal_kind {i : Instr} {o : Nat} {st : List Value} {M : Mem} {x : (List Value × Mem) ⊕ (Nat × Lo × List Value)} (h : gCal i o st M = some x) : ∃ ix kind, kind ≤ 2 ∧ gCalk o ix kind st M = some x ∧ (kind = 0 → i = .invokestatic ix) ∧ (kind = 1 → i = .invokevirtual ix) ∧ (kind = 2 → i = .invokespecial ix) := by
  cases i
  case invokestatic ix => exact ⟨ix, 0, by decide, h, fun _ => rfl, fun q => (by cases q), fun q => (by cases q)⟩
  case invokevirtual ix => exact ⟨ix, 1, by decide, h, fun q => (by cases q), fun _ => rfl, fun q => (by cases q)⟩
  case invokespecial ix => exact ⟨ix, 2, by decide, h, fun q => (by cases q), fun q => (by cases q), fun _ => rfl⟩
  all_goals (simp only [gCal] at h; cases h)
theorem go_succ (SA : Sta) (n : Nat) : go SA (n + 1) = gStep SA (go SA n) (go SA n) := rfl
theorem go_len (SA : Sta) : ∀ (n d me pc : Nat) (vs : Lo) (st : List Value) (M : Mem) (v : Option Value) (M' : Mem) (c s : Nat), go SA n d me pc vs st M = some (v, M', c, s) → M'.length = M.length + c := by
  intro n
  induction n with
  | zero => intro d me pc vs st M v M' c s h; cases h
  | succ n ih =>
    intro d me pc vs st M v M' c s h
    rw [go_succ] at h
    unfold gStep at h
    split at h
    · cases h
    · split at h
      · cases h
      · split at h
        · split at h
          · exact ih _ _ _ _ _ _ _ _ _ _ h
          · cases h
        · split at h
          · exact ih _ _ _ _ _ _ _ _ _ _ h
          · cases h
        · split at h
          · exact ih _ _ _ _ _ _ _ _ _ _ h
          · cases h
        · split at h
          · rename_i hg
            rw [ih _ _ _ _ _ _ _ _ _ _ h, get_len hg]
          · cases h
        · split at h
          · rename_i hg
            rw [ih _ _ _ _ _ _ _ _ _ _ h, get_len hg]
          · cases h
        · split at h
          · rename_i hg
            obtain ⟨c1, s1, h1, h2, h3⟩ := add_inv h
            rw [ih _ _ _ _ _ _ _ _ _ _ h1, new_len hg, h2]
            omega
          · cases h
        · split at h
          · cases h
            rfl
          · cases h
        · split at h
          · cases h
          · split at h
            · cases h
            · rename_i hg
              obtain ⟨ix, kind, -, hk, -⟩ := cal_kind hg
              obtain ⟨id, nest, wi, -, -, hq, -⟩ := calk_len hk
              rw [ih _ _ _ _ _ _ _ _ _ _ h, nat_len hq]
            · obtain ⟨v1, M1, c1, s1, h1, h2⟩ := then_inv h
              obtain ⟨c2, s2, h3, h4, h5⟩ := add_inv h2
              rw [ih _ _ _ _ _ _ _ _ _ _ h3, ih _ _ _ _ _ _ _ _ _ _ h1, h4]
              omega
theorem args_in (B : Nat) (sa : Nat → Nat) : ∀ (as : List Value) (off i : Nat) (v : Value), gNth (gArgs as) i = some (some v) → (off + i, rV B sa v) ∈ lv_args off (as.map (rV B sa)) := by
  intro as
  induction as with
  | nil => intro off i v h; cases h
  | cons a as ih =>
    intro off i v h
    have hcat : gC1 a = true ∧ (rV B sa a).category = 1 ∨ gC1 a = false ∧ (rV B sa a).category = 2 := by
      cases a <;> first | exact Or.inl ⟨rfl, rfl⟩ | exact Or.inr ⟨rfl, rfl⟩
    show _ ∈ (off, rV B sa a) :: lv_args (if (rV B sa a).category = 2 then off + 2 else off + 1) (as.map (rV B sa))
    rcases hcat with ⟨h1, h2⟩ | ⟨h1, h2⟩
    · have h' : gNth (some a :: gArgs as) i = some (some v) := by unfold gArgs at h; rw [h1] at h; exact h
      rw [h2, if_neg (by decide)]
      cases i with
      | zero => cases h'; exact List.mem_cons_self
      | succ i =>
        have := ih (off + 1) i v h'
        rw [show off + (i + 1) = off + 1 + i by omega]
        exact List.mem_cons_of_mem _ this
    · have h' : gNth (some a :: none :: gArgs as) i = some (some v) := by unfold gArgs at h; rw [h1] at h; exact h
      rw [h2, if_pos rfl]
      match i, h' with
      | 0, h' => cases h'; exact List.mem_cons_self
      | 1, h' => cases h'
      | i + 2, h' =>
        have := ih (off + 2) i v h'
        rw [show off + (i + 2) = off + 2 + i by omega]
        exact List.mem_cons_of_mem _ this
theorem args_len (B : Nat) (sa : Nat → Nat) : ∀ (as : List Value), (lg_sl (as.map (rV B sa))).length = (gArgs as).length := by
  intro as
  induction as with
  | nil => rfl
  | cons a as ih =>
    have e : lg_sl ((a :: as).map (rV B sa)) = (if (rV B sa a).category = 2 then [Slot.val (rV B sa a), Slot.second] else [Slot.val (rV B sa a)]) ++ lg_sl (as.map (rV B sa)) := by
      simp [lg_sl]
    rw [e, List.length_append, ih]
    cases a <;> first | (show 1 + (gArgs as).length = (gArgs as).length + 1; omega) | (show 2 + (gArgs as).length = (gArgs as).length + 1 + 1; omega)
theorem pad_nth {n : Nat} {l : Lo} {i : Nat} {v : Value} (h : gNth (gPad n l) i = some (some v)) : gNth l i = some (some v) := by
  unfold gPad at h
  rw [nth_eq] at h ⊢
  by_cases hi : i < l.length
  · rw [List.getElem?_append_left hi] at h
    exact h
  · rw [List.getElem?_append_right (by omega), List.getElem?_replicate] at h
    split at h <;> cases h
/-- what is said of n steps of `go` -/
def Snd (l : Launch) (B : Nat) (sa : Nat → Nat) (cy : Nat → ClassId) (dC : Nat → ClassId) (dI : Nat → Nat → Nat) (SA : Sta) (n : Nat) : Prop := ∀ (d me pc : Nat) (vs : Lo) (st : List Value) (M : Mem) (v : Option Value) (M' : Mem) (c0 s0 : Nat), go SA n d me pc vs st M = some (v, M', c0, s0) → ∀ (o : Nat) (y : MethodName) (cc : ByteArray) (maxL : Nat) (ret : Option FieldType) (np kf : Nat) (tab : List (Nat × Nat × Instr)), gNth mRs me = some (o, y, cc, maxL, ret, np, kf, tab) → ∀ (own : String), gNth ownR o = some own → ∀ (p : Program) (e : Env) (R : Room) (s : State) (m : MethodId) (args : Array Value) (below : List Frame) (meth : Method) (c : Code), p.tables.exec = Jvm.exec → c.code = cc → c.maxLocals = maxL → s.vm.findClass own = some m.cls → (∀ w ∈ W0, w.before args s = true) → Inv B sa cy dC dI SA s → (kf = 2 → meth.name = "<init>") → d + 8 ≤ R.frames → 40 * (d + 8) ≤ R.locals → ∀ (H : Heap) (locs : List Loc) (cells slots : Nat) (ls : Array Slot) (Q : State → Prop), va_P (dC, dI) gCL (wd B sa cy M) H → va_S (fun q => B ≤ q) s.heap H locs → s.heap.size + cells = B + M.length → LV B sa maxL vs ls → cells + c0 ≤ R.cells → slots + s0 ≤ R.slots →
  (∀ (H1 : Heap) (locs1 : List Loc) (ls1 : Array Slot) (pc1 : Nat) (st1 : List Value), va_P (dC, dI) gCL (wd B sa cy M') H1 → va_S (fun q => B ≤ q) s.heap H1 locs1 → s.heap.size + (cells + c0) = B + M'.length → ((v = none ∧ ret = none ∧ st1 = [] ∧ decode cc pc1 = .ok (.return_, 1)) ∨ (∃ x : Int32, v = some (.int x) ∧ st1 = [.int x] ∧ decode cc pc1 = .ok (.ireturn, 1) ∧ (ret = some .int ∨ (ret = some .boolean ∧ fits .boolean (.int x) = true)))) → W p l e R s m args below meth c H1 locs1 (cells + c0) (slots + s0) Q (F0 m pc1 ls1 st1)) → W p l e R s m args below meth c H locs cells slots Q (F0 m pc ls (st.map (rV B sa)))
set_option maxHeartbeats 4000000 in
theorem met_ok {l : Launch} {B : Nat} {sa : Nat → Nat} {cy : Nat → ClassId} {dC : Nat → ClassId} {dI : Nat → Nat → Nat} {SA : Sta} {n : Nat} (ih : Snd l B sa cy dC dI SA n) {d id : Nat} {as : List Value} {M M1 : Mem} {v : Option Value} {c1 s1 : Nat} {o2 : Nat} {y : MethodName} {cc2 : ByteArray} {maxL : Nat} {ret : Option FieldType} {np kf : Nat} {tab : List (Nat × Nat × Instr)} (hm : gNth mRs id = some (o2, y, cc2, maxL, ret, np, kf, tab)) (hid : id ≠ idLaw) (hlen : (gArgs as).length ≤ maxL) (h : go SA n d id 0 (gPad maxL (gArgs as)) [] M = some (v, M1, c1, s1)) : Met l y (.code y cc2 maxL ret :: W0) ({ frames := d + 8, cells := c1, slots := s1, locals := 40 * (d + 8) }) (Pcw B sa cy dC dI SA as M) (Qcw B sa cy dC dI v M1) c1 s1 (fun q => B ≤ q) := by
  obtain ⟨r1, r2, r3, r4, r5, r6, r7, -, -, rI, -, -⟩ := row_ok hm hid
  refine Met.ofW (cc := cc2) (maxL := maxL) (ret := ret) r6 rfl ?_
  intro p e s m args below meth c s₁ B9 hml hv
  obtain ⟨rfl, hI, hsz, hP⟩ := hv
  have hr := B9.returns
  have hts : ∀ w ∈ W0, w.before (as.map (rV B sa)).toArray s = true := fun w hw => atoms_spec (ws := .code y cc2 maxL ret :: W0) B9.pre w (List.mem_cons_of_mem _ hw)
  have hown : s.vm.findClass y.cls = some m.cls := findClass_of_methodNamed B9.named
  have hlocks := B9.notSynchronized
  have hl := lv_entry (as.map (rV B sa)) (n := maxL) (by rw [args_len]; exact hlen)
  rw [lg_entry_eq]
  generalize (lg_sl (as.map (rV B sa)) ++ List.replicate (maxL - (lg_sl (as.map (rV B sa))).length) Slot.unset).toArray = ls at hl ⊢
  have hL : LV B sa maxL (gPad maxL (gArgs as)) ls := by
    refine ⟨by unfold gPad; rw [List.length_append, List.length_replicate]; omega, _, hl, fun i w hw => ?_⟩
    have := args_in B sa as 0 i w (pad_nth hw)
    rwa [Nat.zero_add] at this
  have hS : va_S (fun q => B ≤ q) s.heap s.heap [] := va_S.rf
  refine ih d id 0 _ [] M v M1 c1 s1 h o2 y cc2 maxL ret np kf tab hm y.cls r3 p e _ s m _ below meth c B9.exec B9.bytes hml hown hts hI (fun q => ?_) (Nat.le_refl _) (Nat.le_refl _) s.heap [] 0 0 ls _ hP hS hsz hL (by rw [Nat.zero_add]; exact Nat.le_refl _) (by rw [Nat.zero_add]; exact Nat.le_refl _) ?_
  · have hnm := (name_of_methodNamed B9.named B9.method).1
    rw [hnm]
    by_cases h0 : kf = 0
    · omega
    · by_cases h1 : kf = 1
      · omega
      · exact (rI h0 h1).2.1
  · intro H1 locs1 ls1 pc1 st1 hP1 hS1 hsz1 hcase
    rw [Nat.zero_add] at hsz1 ⊢
    rw [Nat.zero_add]
    refine W.sz (fun hz => ?_)
    have hH := world_size hI hP1 hS1 hsz1 hz
    rcases hcase with ⟨rfl, hrt, rfl, hd⟩ | ⟨x, rfl, rfl, hd, hrt⟩
    · exact W.vret B9.exec B9.bytes (hr.trans hrt) (fun t ht hW => ⟨⟨(), rfl, trivial, by rw [ht]; exact hH, by rw [ht]; exact hP1⟩, hS1.F ht⟩) hS1.2.2 hd
    · rcases hrt with hrt | ⟨hrt, hft⟩
      · exact W.iret B9.exec B9.bytes (hr.trans hrt) (fun t ht hW => ⟨⟨x, (), rfl, rfl, by rw [ht]; exact hH, by rw [ht]; exact hP1⟩, hS1.F ht⟩) hS1.2.2 hd
      · exact W.zret B9.exec B9.bytes (hr.trans hrt) (fit_nar rfl hft) (fun t ht hW => ⟨⟨x, (), rfl, rfl, by rw [ht]; exact hH, by rw [ht]; exact hP1⟩, hS1.F ht⟩) hS1.2.2 hd
set_option maxHeartbeats 4000000 in
theorem go_snd {l : Launch} {B : Nat} {sa : Nat → Nat} {cy : Nat → ClassId} {dC : Nat → ClassId} {dI : Nat → Nat → Nat} {SA : Sta} (hlib : MetLib l B sa cy dC dI SA) : ∀ n : Nat, Snd l B sa cy dC dI SA n := by
  intro n
  induction n with
  | zero => intro d me pc vs st M v M' c0 s0 h; cases h
  | succ n ih =>
    intro d me pc vs st M v M' c0 s0 h o y cc maxL ret np kf tab hrow own hoo p e R s m args below meth c hx hb hml hown hts hI hini hfr hlo H locs cells slots ls Q hP hS hsz hL hcc hss hret
    rw [go_succ] at h
    unfold gStep at h
    rw [hrow] at h
    dsimp only at h
    split at h
    · cases h
    · rename_i kd i hlook
      have hck := List.all_eq_true.mp (ckDs _ (gNth_mem _ _ _ hrow)) _ (look_in _ _ _ hlook)
      obtain ⟨n9, hd, h9⟩ := dec_ok hck
      split at h
      · split at h
        · rename_i st2 hg
          have hd2 := dec_len hd h9 (fun d lo hi offs q => by rw [q] at hg; cases hg) (fun d ps q => by rw [q] at hg; cases hg)
          exact alu_ok hx hb hd2 hg (ih _ _ _ _ _ _ _ _ _ _ h o y cc maxL ret np kf tab hrow own hoo p e R s m args below meth c hx hb hml hown hts hI hini hfr hlo H locs cells slots ls Q hP hS hsz hL hcc hss hret)
        · cases h
      · split at h
        · rename_i vs2 st2 hg
          have hd2 := dec_len hd h9 (fun d lo hi offs q => by rw [q] at hg; cases hg) (fun d ps q => by rw [q] at hg; cases hg)
          exact loc_ok hx hb hd2 hL hg (fun ls2 hL2 => ih _ _ _ _ _ _ _ _ _ _ h o y cc maxL ret np kf tab hrow own hoo p e R s m args below meth c hx hb hml hown hts hI hini hfr hlo H locs cells slots ls2 Q hP hS hsz hL2 hcc hss hret)
        · cases h
      · split at h
        · rename_i pc2 st2 hg
          exact jmp_ok hx hb hd h9 hg (ih _ _ _ _ _ _ _ _ _ _ h o y cc maxL ret np kf tab hrow own hoo p e R s m args below meth c hx hb hml hown hts hI hini hfr hlo H locs cells slots ls Q hP hS hsz hL hcc hss hret)
        · cases h
      · split at h
        · rename_i st2 M2 hg
          have hd2 := dec_len hd h9 (fun d lo hi offs q => by rw [q] at hg; cases hg) (fun d ps q => by rw [q] at hg; cases hg)
          exact get_ok hx hb hoo hown hts hI (fun q => hini (Nat.eq_of_beq_eq_true q)) hP hS hd2 hg (fun H1 locs1 hP1 hS1 => ih _ _ _ _ _ _ _ _ _ _ h o y cc maxL ret np kf tab hrow own hoo p e R s m args below meth c hx hb hml hown hts hI hini hfr hlo H1 locs1 cells slots ls Q hP1 hS1 (by rw [get_len hg]; exact hsz) hL hcc hss hret)
        · cases h
      · split at h
        · rename_i st2 M2 hg
          have hd2 := dec_len hd h9 (fun d lo hi offs q => by rw [q] at hg; cases hg) (fun d ps q => by rw [q] at hg; cases hg)
          exact get_ok hx hb hoo hown hts hI (fun q => hini (Nat.eq_of_beq_eq_true q)) hP hS hd2 hg (fun H1 locs1 hP1 hS1 => ih _ _ _ _ _ _ _ _ _ _ h o y cc maxL ret np kf tab hrow own hoo p e R s m args below meth c hx hb hml hown hts hI hini hfr hlo H1 locs1 cells slots ls Q hP1 hS1 (by rw [get_len hg]; exact hsz) hL hcc hss hret)
        · cases h
      · split at h
        · rename_i st2 M2 c2 s2 hg
          have hd2 := dec_len hd h9 (fun d lo hi offs q => by rw [q] at hg; cases hg) (fun d ps q => by rw [q] at hg; cases hg)
          obtain ⟨c3, s3, h3, rfl, rfl⟩ := add_inv h
          exact new_ok hx hb hoo hown hts hI hP hS hd2 hg hsz (by omega) (by omega) (fun H1 hP1 hS1 => ih _ _ _ _ _ _ _ _ _ _ h3 o y cc maxL ret np kf tab hrow own hoo p e R s m args below meth c hx hb hml hown hts hI hini hfr hlo H1 locs (cells + c2) (slots + s2) ls Q hP1 hS1 (by rw [new_len hg]; omega) hL (by omega) (by omega) (by rw [Nat.add_assoc, Nat.add_assoc]; exact hret))
        · cases h
      · split at h
        · rename_i v2 hg
          cases h
          refine hret H locs ls pc _ hP hS hsz ?_
          unfold gRet at hg
          split at hg
          · split at hg
            · cases hg
              have hd2 := dec_len hd h9 (fun d lo hi offs q => by cases q) (fun d ps q => by cases q)
              exact Or.inl ⟨rfl, rfl, rfl, hd2⟩
            · cases hg
          · split at hg
            · cases hg
              have hd2 := dec_len hd h9 (fun d lo hi offs q => by cases q) (fun d ps q => by cases q)
              exact Or.inr ⟨_, rfl, rfl, hd2, Or.inl rfl⟩
            · rename_i x9
              cases hf : fits .boolean (.int x9) with
              | false => rw [hf] at hg; cases hg
              | true =>
                rw [hf] at hg
                cases hg
                have hd2 := dec_len hd h9 (fun d lo hi offs q => by cases q) (fun d ps q => by cases q)
                exact Or.inr ⟨_, rfl, rfl, hd2, Or.inr ⟨rfl, hf⟩⟩
            · cases hg
          · cases hg
        · cases h
      · split at h
        · cases h
        · rename_i d2
          split at h
          · cases h
          · rename_i st2 M2 hg
            obtain ⟨ix, kind, hk2, hk, k0, k1, k2⟩ := cal_kind hg
            obtain ⟨id, nest, wi, hr, hble, hq, hkk, hroom⟩ := calk_len hk
            refine nat_ok hlib hx hb hml hL hoo hown hts hI (by omega) (by omega) hP hS hsz ⟨by omega, by omega⟩ hr hble hq hkk hroom (fun q => ?_) (fun q => ?_) (fun q => ?_) (fun H1 locs1 hP1 hS1 => ih _ _ _ _ _ _ _ _ _ _ h o y cc maxL ret np kf tab hrow own hoo p e R s m args below meth c hx hb hml hown hts hI hini hfr hlo H1 locs1 cells slots ls Q hP1 hS1 (by rw [nat_len hq]; exact hsz) hL hcc hss hret)
            · have := dec_len hd h9 (fun d lo hi offs q2 => by rw [k1 q] at q2; cases q2) (fun d ps q2 => by rw [k1 q] at q2; cases q2)
              rw [k1 q] at this
              exact this
            · have := dec_len hd h9 (fun d lo hi offs q2 => by rw [k0 q] at q2; cases q2) (fun d ps q2 => by rw [k0 q] at q2; cases q2)
              rw [k0 q] at this
              exact this
            · have := dec_len hd h9 (fun d lo hi offs q2 => by rw [k2 q] at q2; cases q2) (fun d ps q2 => by rw [k2 q] at q2; cases q2)
              rw [k2 q] at this
              exact this
          · rename_i id ls0 rest hg
            obtain ⟨ix, kind, hk2, hk, k0, k1, k2⟩ := cal_kind hg
            obtain ⟨v1, M1, c1, s1, h1, h2⟩ := then_inv h
            obtain ⟨c3, s3, h3, rfl, rfl⟩ := add_inv h2
            refine call_ok (d' := d2 + 8) hx hb hml hL hoo hown hts hI hP hS hsz (by omega) (by omega) ⟨by omega, by omega⟩ hk hk2 (fun q => ?_) (fun q => ?_) (fun q => ?_) (fun o2 y2 cc2 maxL2 ret2 np2 kf2 tab2 as hm hid hls hlen => ?_) (fun H1 locs1 hP1 hS1 => ih _ _ _ _ _ _ _ _ _ _ h3 o y cc maxL ret np kf tab hrow own hoo p e R s m args below meth c hx hb hml hown hts hI hini hfr hlo H1 locs1 (cells + c1) (slots + s1) ls Q hP1 hS1 (by rw [go_len SA _ _ _ _ _ _ _ _ _ _ _ h1]; omega) hL (by omega) (by omega) (by rw [Nat.add_assoc, Nat.add_assoc]; exact hret))
            · have := dec_len hd h9 (fun d lo hi offs q2 => by rw [k0 q] at q2; cases q2) (fun d ps q2 => by rw [k0 q] at q2; cases q2)
              rw [k0 q] at this
              exact this
            · have := dec_len hd h9 (fun d lo hi offs q2 => by rw [k1 q] at q2; cases q2) (fun d ps q2 => by rw [k1 q] at q2; cases q2)
              rw [k1 q] at this
              exact this
            · have := dec_len hd h9 (fun d lo hi offs q2 => by rw [k2 q] at q2; cases q2) (fun d ps q2 => by rw [k2 q] at q2; cases q2)
              rw [k2 q] at this
              exact this
            · rw [hls] at h1
              exact met_ok ih hm hid hlen h1
