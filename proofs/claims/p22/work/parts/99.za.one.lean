/-! Some steps of one method, by a table of its own, and what the machine does; the calls in between by `go` -/
abbrev O1 : Type := Option (Nat × Lo × List Value × Mem × Nat × Nat)
noncomputable def gOne (SA : Sta) (n d o kf : Nat) (tab : List (Nat × Nat × Instr)) (pc : Nat) (ls : Lo) (st : List Value) (M : Mem) : O1 := match gLook tab pc with
  | none => none
  | some (kd, i) => match kd with
    | 0 => match gAlu i st with
      | some st' => some (pc + gLen i, ls, st', M, 0, 0)
      | none => none
    | 1 => match gLoc i ls st with
      | some (ls', st') => some (pc + gLen i, ls', st', M, 0, 0)
      | none => none
    | 2 => match gJmp i pc st with
      | some (pc', st') => some (pc', ls, st', M, 0, 0)
      | none => none
    | 3 => match gGet i SA o (Nat.beq kf 2) st M with
      | some (st', M') => some (pc + gLen i, ls, st', M', 0, 0)
      | none => none
    | 4 => match gGet i SA o (Nat.beq kf 2) st M with
      | some (st', M') => some (pc + gLen i, ls, st', M', 0, 0)
      | none => none
    | 5 => match gNew i o st M with
      | some (st', M', c, s) => some (pc + gLen i, ls, st', M', c, s)
      | none => none
    | 6 => none
    | _ => match d with
      | 0 => none
      | d' + 1 => match gCal i o st M with
        | none => none
        | some (.inl (st', M')) => some (pc + 3, ls, st', M', 0, 0)
        | some (.inr (id, ls0, rest)) => match go SA n d' id 0 ls0 [] M with
          | some (v, M', c, s) => some (pc + 3, ls, v.toList ++ rest, M', c, s)
          | none => none
noncomputable def gMany (SA : Sta) (n d o kf : Nat) (tab : List (Nat × Nat × Instr)) (k : Nat) : Nat → Lo → List Value → Mem → O1 := Nat.rec (motive := fun _ => Nat → Lo → List Value → Mem → O1) (fun pc ls st M => some (pc, ls, st, M, 0, 0)) (fun _ ih pc ls st M => match gOne SA n d o kf tab pc ls st M with
  | some (pc', ls', st', M', c, s) => match ih pc' ls' st' M' with
    | some (pc2, ls2, st2, M2, c2, s2) => some (pc2, ls2, st2, M2, c + c2, s + s2)
    | none => none
  | none => none) k
theorem one_call {SA : Sta} {n d o kf : Nat} {tab : List (Nat × Nat × Instr)} {pc : Nat} {ls ls0 : Lo} {st rest : List Value} {M M1 : Mem} {i : Instr} {id c1 s1 : Nat} {v : Option Value} (hl : gLook tab pc = some (7, i)) (hc : gCal i o st M = some (.inr (id, ls0, rest))) (h : go SA n d id 0 ls0 [] M = some (v, M1, c1, s1)) : gOne SA n (d + 1) o kf tab pc ls st M = some (pc + 3, ls, v.toList ++ rest, M1, c1, s1) := by
  unfold gOne
  rw [hl]
  dsimp only
  rw [hc]
  dsimp only
  rw [h]
  rfl
section ONE
variable {p : Program} {l : Launch} {e : Env} {R : Room} {s : State} {m : MethodId} {args : Array Value} {below : List Frame} {meth : Method} {c : Code} {Q : State → Prop} {B : Nat} {sa : Nat → Nat} {cy : Nat → ClassId} {dC : Nat → ClassId} {dI : Nat → Nat → Nat} {SA : Sta}
/-- from every heap that holds what is told, the machine comes to Q -/
def Wst (p : Program) (l : Launch) (e : Env) (R : Room) (s : State) (m : MethodId) (args : Array Value) (below : List Frame) (meth : Method) (c : Code) (Q : State → Prop) (B : Nat) (sa : Nat → Nat) (cy : Nat → ClassId) (dC : Nat → ClassId) (dI : Nat → Nat → Nat) (maxL cells slots pc : Nat) (vs : Lo) (st : List Value) (M : Mem) : Prop := ∀ (H : Heap) (locs : List Loc) (ls : Array Slot), va_P (dC, dI) gCL (wd B sa cy M) H → va_S (fun q => B ≤ q) s.heap H locs → s.heap.size + cells = B + M.length → LV B sa maxL vs ls → W p l e R s m args below meth c H locs cells slots Q (F0 m pc ls (st.map (rV B sa)))
def Ctx (p : Program) (R : Room) (s : State) (m : MethodId) (args : Array Value) (meth : Method) (c : Code) (B : Nat) (sa : Nat → Nat) (cy : Nat → ClassId) (dC : Nat → ClassId) (dI : Nat → Nat → Nat) (SA : Sta) (o kf d maxL : Nat) (own : String) (cc : ByteArray) : Prop := p.tables.exec = Jvm.exec ∧ c.code = cc ∧ c.maxLocals = maxL ∧ gNth ownR o = some own ∧ s.vm.findClass own = some m.cls ∧ (∀ w ∈ W0, w.before args s = true) ∧ Inv B sa cy dC dI SA s ∧ (kf = 2 → meth.name = "<init>") ∧ d + 8 ≤ R.frames ∧ 40 * (d + 8) ≤ R.locals
set_option maxHeartbeats 4000000 in
theorem one_ok (hlib : MetLib l B sa cy dC dI SA) {n d o kf maxL : Nat} {own : String} {cc : ByteArray} (C : Ctx p R s m args meth c B sa cy dC dI SA o kf d maxL own cc) {tab : List (Nat × Nat × Instr)} (htab : tab.all (ckD cc) = true) {pc pc' c0 s0 cells slots : Nat} {vs vs' : Lo} {st st' : List Value} {M M' : Mem} (h : gOne SA n d o kf tab pc vs st M = some (pc', vs', st', M', c0, s0)) (hcc : cells + c0 ≤ R.cells) (hss : slots + s0 ≤ R.slots) (k : Wst p l e R s m args below meth c Q B sa cy dC dI maxL (cells + c0) (slots + s0) pc' vs' st' M') : Wst p l e R s m args below meth c Q B sa cy dC dI maxL cells slots pc vs st M := by
  obtain ⟨hx, hb, hml, hoo, hown, hts, hI, hini, hfr, hlo⟩ := C
  intro H locs ls hP hS hsz hL
  unfold gOne at h
  split at h
  · cases h
  · rename_i kd i hlook
    have hck := List.all_eq_true.mp htab _ (look_in _ _ _ hlook)
    obtain ⟨n9, hd, h9⟩ := dec_ok hck
    split at h
    · split at h
      · rename_i st2 hg
        have hd2 := dec_len hd h9 (fun d lo hi offs q => by rw [q] at hg; cases hg) (fun d ps q => by rw [q] at hg; cases hg)
        cases h
        exact alu_ok hx hb hd2 hg (k H locs ls hP hS hsz hL)
      · cases h
    · split at h
      · rename_i vs2 st2 hg
        have hd2 := dec_len hd h9 (fun d lo hi offs q => by rw [q] at hg; cases hg) (fun d ps q => by rw [q] at hg; cases hg)
        cases h
        exact loc_ok hx hb hd2 hL hg (fun ls2 hL2 => k H locs ls2 hP hS hsz hL2)
      · cases h
    · split at h
      · rename_i pc2 st2 hg
        cases h
        exact jmp_ok hx hb hd h9 hg (k H locs ls hP hS hsz hL)
      · cases h
    · split at h
      · rename_i st2 M2 hg
        have hd2 := dec_len hd h9 (fun d lo hi offs q => by rw [q] at hg; cases hg) (fun d ps q => by rw [q] at hg; cases hg)
        cases h
        exact get_ok hx hb hoo hown hts hI (fun q => hini (Nat.eq_of_beq_eq_true q)) hP hS hd2 hg (fun H1 locs1 hP1 hS1 => k H1 locs1 ls hP1 hS1 (by rw [get_len hg]; exact hsz) hL)
      · cases h
    · split at h
      · rename_i st2 M2 hg
        have hd2 := dec_len hd h9 (fun d lo hi offs q => by rw [q] at hg; cases hg) (fun d ps q => by rw [q] at hg; cases hg)
        cases h
        exact get_ok hx hb hoo hown hts hI (fun q => hini (Nat.eq_of_beq_eq_true q)) hP hS hd2 hg (fun H1 locs1 hP1 hS1 => k H1 locs1 ls hP1 hS1 (by rw [get_len hg]; exact hsz) hL)
      · cases h
    · split at h
      · rename_i st2 M2 c2 s2 hg
        have hd2 := dec_len hd h9 (fun d lo hi offs q => by rw [q] at hg; cases hg) (fun d ps q => by rw [q] at hg; cases hg)
        cases h
        exact new_ok hx hb hoo hown hts hI hP hS hd2 hg hsz hcc hss (fun H1 hP1 hS1 => k H1 locs ls hP1 hS1 (by rw [new_len hg]; omega) hL)
      · cases h
    · cases h
    · split at h
      · cases h
      · rename_i d2
        split at h
        · cases h
        · rename_i st2 M2 hg
          obtain ⟨ix, kind, hk2, hk, k0, k1, k2⟩ := cal_kind hg
          obtain ⟨id, nest, wi, hr, hble, hq, hkk, hroom⟩ := calk_len hk
          cases h
          refine nat_ok hlib hx hb hml hL hoo hown hts hI (by omega) (by omega) hP hS hsz ⟨by omega, by omega⟩ hr hble hq hkk hroom (fun q => ?_) (fun q => ?_) (fun q => ?_) (fun H1 locs1 hP1 hS1 => k H1 locs1 ls hP1 hS1 (by rw [nat_len hq]; exact hsz) hL)
          · have := dec_len hd h9 (fun d lo hi offs q2 => by rw [k1 q] at q2; cases q2) (fun d ps q2 => by rw [k1 q] at q2; cases q2)
            rw [k1 q] at this
            exact this
          · have := dec_len hd h9 (fun d lo hi offs q2 => by rw [k0 q] at q2; cases q2) (fun d ps q2 => by rw [k0 q] at q2; cases q2)
            rw [k0 q] at this
            exact this
          · have := dec_len hd h9 (fun d lo hi offs q2 => by rw [k2 q] at q2; cases q2) (fun d ps q2 => by rw [k2 q] at q2; cases q2)
            rw [k2 q] at this
            exact this
        · rename_i id ls0 rest hg
          split at h
          · rename_i v1 M1 c1 s1 h1
            obtain ⟨ix, kind, hk2, hk, k0, k1, k2⟩ := cal_kind hg
            cases h
            refine call_ok (d' := d2 + 8) hx hb hml hL hoo hown hts hI hP hS hsz (by omega) (by omega) ⟨hcc, hss⟩ hk hk2 (fun q => ?_) (fun q => ?_) (fun q => ?_) (fun o2 y2 cc2 maxL2 ret2 np2 kf2 tab2 as hm hid hls hlen => ?_) (fun H1 locs1 hP1 hS1 => k H1 locs1 ls hP1 hS1 (by rw [go_len SA _ _ _ _ _ _ _ _ _ _ _ h1]; omega) hL)
            · have := dec_len hd h9 (fun d lo hi offs q2 => by rw [k0 q] at q2; cases q2) (fun d ps q2 => by rw [k0 q] at q2; cases q2)
              rw [k0 q] at this
              exact this
            · have := dec_len hd h9 (fun d lo hi offs q2 => by rw [k1 q] at q2; cases q2) (fun d ps q2 => by rw [k1 q] at q2; cases q2)
              rw [k1 q] at this
              exact this
            · have := dec_len hd h9 (fun d lo hi offs q2 => by rw [k2 q] at q2; cases q2) (fun d ps q2 => by rw [k2 q] at q2; cases q2)
              rw [k2 q] at this
              exact this
            · rw [hls] at h1
              exact met_ok (go_snd hlib n) hm hid hlen h1
          · cases h
theorem many_ok (hlib : MetLib l B sa cy dC dI SA) {n d o kf maxL : Nat} {own : String} {cc : ByteArray} (C : Ctx p R s m args meth c B sa cy dC dI SA o kf d maxL own cc) {tab : List (Nat × Nat × Instr)} (htab : tab.all (ckD cc) = true) : ∀ (k : Nat) {pc pc' c0 s0 cells slots : Nat} {vs vs' : Lo} {st st' : List Value} {M M' : Mem}, gMany SA n d o kf tab k pc vs st M = some (pc', vs', st', M', c0, s0) → cells + c0 ≤ R.cells → slots + s0 ≤ R.slots → Wst p l e R s m args below meth c Q B sa cy dC dI maxL (cells + c0) (slots + s0) pc' vs' st' M' → Wst p l e R s m args below meth c Q B sa cy dC dI maxL cells slots pc vs st M := by
  intro k
  induction k with
  | zero =>
    intro pc pc' c0 s0 cells slots vs vs' st st' M M' h hcc hss kk
    cases h
    exact kk
  | succ k ih =>
    intro pc pc' c0 s0 cells slots vs vs' st st' M M' h hcc hss kk
    have h : (match gOne SA n d o kf tab pc vs st M with
      | some (pc', ls', st', M', c, s) => match gMany SA n d o kf tab k pc' ls' st' M' with
        | some (pc2, ls2, st2, M2, c2, s2) => some (pc2, ls2, st2, M2, c + c2, s + s2)
        | none => none
      | none => none) = some (pc', vs', st', M', c0, s0) := h
    split at h
    · rename_i pc1 vs1 st1 M1 c1 s1 h1
      split at h
      · rename_i pc2 vs2 st2 M2 c2 s2 h2
        cases h
        refine one_ok hlib C htab h1 (by omega) (by omega) (ih h2 (by omega) (by omega) ?_)
        rw [Nat.add_assoc, Nat.add_assoc]
        exact kk
      · cases h
    · cases h
end ONE
set_option maxRecDepth 100000 in
/-- the law's table -/
theorem law_tab : (mT250).all (ckD code) = true := ckDs (12, yL_law, cL_law, 7, some .boolean, 1, 0, mT250) (gNth_mem mRs 250 _ rfl)
section LAW
variable {p : Program} {l : Launch} {e : Env} {s : State} {m : MethodId} {below : List Frame} {meth : Method} {c : Code} {b L : Nat} {xs : Nat → Int32} {B : Nat} {sa : Nat → Nat} {cy : Nat → ClassId} {dC : Nat → ClassId} {dI : Nat → Nat → Nat} {sc : List Int32}
theorem law_ctx (C0 : lw_At p s m meth c b L xs) (hI : Inv B sa cy dC dI (some sc) s) : Ctx p room_1 s m #[Value.ref b] meth c B sa cy dC dI (some sc) 12 0 1000 7 "GrassParkLaw" code := by
  obtain ⟨hx, hb, hr, hml, hown, hts, hX, hbl, hlocks, hgv⟩ := C0
  exact ⟨hx, hb, hml, rfl, hown, fun w hw => hts w (w0_lw w hw), hI, (fun q => by cases q), by decide +kernel, by decide +kernel⟩
/-- the rest of the law by a run of `go` -/
theorem ev_W (C0 : lw_At p s m meth c b L xs) (hI : Inv s.heap.size sa cy dC dI (some sc) s) {pc cells slots c0 s0 : Nat} {vs : Lo} {st : List Value} {M M' : Mem} (h : Ev (some sc) 1000 250 pc vs st M (some (.int 1)) M' c0 s0) (hc0 : cells + c0 ≤ 601024) (hs0 : slots + s0 ≤ 7293034) : Wst p l e room_1 s m #[Value.ref b] below meth c (lw_Z below #[Value.ref b] s) s.heap.size sa cy dC dI 7 cells slots pc vs st M := by
  obtain ⟨n, h⟩ := h
  obtain ⟨hx, hb, hr, hml, hown, hts, hX, hbl, hlocks, hgv⟩ := C0
  intro H locs ls hP hS hsz hL
  refine go_snd (lib_ok l s.heap.size sa cy dC dI (some sc)) n 1000 250 pc vs st M _ M' c0 s0 h 12 yL_law code 7 (some .boolean) 1 0 _ rfl "GrassParkLaw" rfl p e room_1 s m #[Value.ref b] below meth c hx hb hml hown (fun w hw => hts w (w0_lw w hw)) hI (fun q => by cases q) (by decide +kernel) (by decide +kernel) H locs cells slots ls _ hP hS hsz hL hc0 hs0 ?_
  intro H1 locs1 ls1 pc1 st1 hP1 hS1 hsz1 hcase
  rcases hcase with ⟨h1, -⟩ | ⟨x, h1, h2, hd, -⟩
  · cases h1
  · cases h1
    subst h2
    refine va_forget (fun q hq => hS1.2.2 q hq) ?_
    refine W.widen hc0 hs0 ?_
    exact lw_ret hx hb hr hlocks hd
/-- from the law's entry -/
theorem start_W (C0 : lw_At p s m meth c b L xs) (hsa : sa 0 = b) (k : Wst p l e room_1 s m #[Value.ref b] below meth c (lw_Z below #[Value.ref b] s) s.heap.size sa cy dC dI 7 0 0 0 [some (.retAddr 0), none, none, none, none, none, none] [] []) : W p l e room_1 s m #[Value.ref b] below meth c s.heap [] 0 0 (lw_Z below #[Value.ref b] s) (entryFrame m ([Value.ref b] : List Value).toArray 7) := by
  have hl := lv_entry ([.ref b]) (n := 7) (Nat.le_of_ble_eq_true rfl)
  rw [lg_entry_eq]
  generalize (lg_sl ([.ref b]) ++ List.replicate (7 - (lg_sl ([.ref b])).length) Slot.unset).toArray = ls at hl ⊢
  have hl : lv_has ls 7 [(0, .ref b)] := hl
  have hL : LV s.heap.size sa 7 [some (.retAddr 0), none, none, none, none, none, none] ls := by
    refine ⟨rfl, _, hl, fun i w hw => ?_⟩
    match i, hw with
    | 0, hw =>
      cases hw
      show (0, Value.ref (sa 0)) ∈ _
      rw [hsa]
      exact List.mem_cons_self
    | 1, hw => cases hw
    | 2, hw => cases hw
    | 3, hw => cases hw
    | 4, hw => cases hw
    | 5, hw => cases hw
    | 6, hw => cases hw
    | n + 7, hw => cases hw
  exact k s.heap [] ls (fun k q h => by cases h) va_S.rf rfl hL
end LAW
