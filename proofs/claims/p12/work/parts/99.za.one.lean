/-! Some steps of one method, by a table of its own, and what the machine does; the calls in between by `go` -/
abbrev O1 : Type := Option (Nat × Lo × List Value × Mem × Nat × Nat)
noncomputable def gOne (SA : Sta) (n d o kf : Nat) (tab : List (Nat × Nat × Instr)) (pc : Nat) (ls : Lo) (st : List Value) (M : Mem) : O1 := match gLook tab pc with
  | none => none
  | some (kd, i) => match kd with
    | 0 => match gAlu i st with
      | some st' => some (pc + gLen i, ls, st', M, 0, 0)
      | none => none
    | 1 => match gLoc i ls st with
      | some (ls', st') => some (pc + gLen i, ls', st', M, 0, 0)
      | none => none
    | 2 => match gJmp i pc st with
      | some (pc', st') => some (pc', ls, st', M, 0, 0)
      | none => none
    | 3 => match gGet i SA o (Nat.beq kf 2) st M with
      | some (st', M') => some (pc + gLen i, ls, st', M', 0, 0)
      | none => none
    | 4 => match gGet i SA o (Nat.beq kf 2) st M with
      | some (st', M') => some (pc + gLen i, ls, st', M', 0, 0)
      | none => none
    | 5 => match gNew i o st M with
      | some (st', M', c, s) => some (pc + gLen i, ls, st', M', c, s)
      | none => none
    | 6 => none
    | _ => match d with
      | 0 => none
      | d' + 1 => match gCal i o st M with
        | none => none
        | some (.inl (st', M')) => some (pc + 3, ls, st', M', 0, 0)
        | some (.inr (id, ls0, rest)) => match go SA n d' id 0 ls0 [] M with
          | some (v, M', c, s) => some (pc + 3, ls, v.toList ++ rest, M', c, s)
          | none => none
noncomputable def gMany (SA : Sta) (n d o kf : Nat) (tab : List (Nat × Nat × Instr)) (k : Nat) : Nat → Lo → List Value → Mem → O1 := Nat.rec (motive := fun _ => Nat → Lo → List Value → Mem → O1) (fun pc ls st M => some (pc, ls, st, M, 0, 0)) (fun _ ih pc ls st M => match gOne SA n d o kf tab pc ls st M with
  | some (pc', ls', st', M', c, s) => match ih pc' ls' st' M' with
    | some (pc2, ls2, st2, M2, c2, s2) => some (pc2, ls2, st2, M2, c + c2, s + s2)
    | none => none
  | none => none) k
theorem one_call {SA : Sta} {n d o kf : Nat} {tab : List (Nat × Nat × Instr)} {pc : Nat} {ls ls0 : Lo} {st rest : List Value} {M M1 : Mem} {i : Instr} {id c1 s1 : Nat} {v : Option Value} (hl : gLook tab pc = some (7, i)) (hc : gCal i o st M = some (.inr (id, ls0, rest))) (h : go SA n d id 0 ls0 [] M = some (v, M1, c1, s1)) : gOne SA n (d + 1) o kf tab pc ls st M = some (pc + 3, ls, v.toList ++ rest, M1, c1, s1) := by
  unfold gOne
  rw [hl]
  dsimp only
  rw [hc]
  dsimp only
  rw [h]
  rfl
section ONE
variable {p : Program} {l : Launch} {e : Env} {R : Room} {s : State} {m : MethodId} {args : Array Value} {below : List Frame} {meth : Method} {c : Code} {Q : State → Prop} {B : Nat} {sa : Nat → Nat} {cy : Nat → ClassId} {dC : Nat → ClassId} {dI : Nat → Nat → Nat} {SA : Sta}
/-- from every heap that holds what is told, the machine comes to Q -/
def Wst (p : Program) (l : Launch) (e : Env) (R : Room) (s : State) (m : MethodId) (args : Array Value) (below : List Frame) (meth : Method) (c : Code) (Q : State → Prop) (B : Nat) (sa : Nat → Nat) (cy : Nat → ClassId) (dC : Nat → ClassId) (dI : Nat → Nat → Nat) (maxL cells slots pc : Nat) (vs : Lo) (st : List Value) (M : Mem) : Prop := ∀ (H : Heap) (locs : List Loc) (ls : Array Slot), va_P (dC, dI) gCL (wd B sa cy M) H → va_S (fun q => B ≤ q) s.heap H locs → s.heap.size + cells = B + M.length → LV B sa maxL vs ls → W p l e R s m args below meth c H locs cells slots Q (F0 m pc ls (st.map (rV B sa)))
def Ctx (p : Program) (R : Room) (s : State) (m : MethodId) (args : Array Value) (meth : Method) (c : Code) (B : Nat) (sa : Nat → Nat) (cy : Nat → ClassId) (dC : Nat → ClassId) (dI : Nat → Nat → Nat) (SA : Sta) (o kf d maxL : Nat) (own : String) (cc : ByteArray) : Prop := p.tables.exec = Jvm.exec ∧ c.code = cc ∧ c.maxLocals = maxL ∧ gNth ownR o = some own ∧ s.vm.findClass own = some m.cls ∧ (∀ w ∈ W0, w.before args s = true) ∧ Inv B sa cy dC dI SA s ∧ (kf = 2 → meth.name = "<init>") ∧ d + 8 ≤ R.frames ∧ 40 * (d + 8) ≤ R.locals
set_option maxHeartbeats 4000000 in
theorem one_ok (hlib : MetLib l B sa cy dC dI SA) {n d o kf maxL : Nat} {own : String} {cc : ByteArray} (C : Ctx p R s m args meth c B sa cy dC dI SA o kf d maxL own cc) {tab : List (Nat × Nat × Instr)} (htab : tab.all (ckD cc) = true) {pc pc' c0 s0 cells slots : Nat} {vs vs' : Lo} {st st' : List Value} {M M' : Mem} (h : gOne SA n d o kf tab pc vs st M = some (pc', vs', st', M', c0, s0)) (hcc : cells + c0 ≤ R.cells) (hss : slots + s0 ≤ R.slots) (k : Wst p l e R s m args below meth c Q B sa cy dC dI maxL (cells + c0) (slots + s0) pc' vs' st' M') : Wst p l e R s m args below meth c Q B sa cy dC dI maxL cells slots pc vs st M := by
  obtain ⟨hx, hb, hml, hoo, hown, hts, hI, hini, hfr, hlo⟩ := C
  intro H locs ls hP hS hsz hL
  unfold gOne at h
  split at h
  · cases h
  · rename_i kd i hlook
    have hck := List.all_eq_true.mp htab _ (look_in _ _ _ hlook)
    obtain ⟨n9, hd, h9⟩ := dec_ok hck
    split at h
    · split at h
      · rename_i st2 hg
        have hd2 := dec_len hd h9 (fun d lo hi offs q => by rw [q] at hg; cases hg) (fun d ps q => by rw [q] at hg; cases hg)
        cases h
        exact alu_ok hx hb hd2 hg (k H locs ls hP hS hsz hL)
      · cases h
    · split at h
      · rename_i vs2 st2 hg
        have hd2 := dec_len hd h9 (fun d lo hi offs q => by rw [q] at hg; cases hg) (fun d ps q => by rw [q] at hg; cases hg)
        cases h
        exact loc_ok hx hb hd2 hL hg (fun ls2 hL2 => k H locs ls2 hP hS hsz hL2)
      · cases h
    · split at h
      · rename_i pc2 st2 hg
        cases h
        exact jmp_ok hx hb hd h9 hg (k H locs ls hP hS hsz hL)
      · cases h
    · split at h
      · rename_i st2 M2 hg
        have hd2 := dec_len hd h9 (fun d lo hi offs q => by rw [q] at hg; cases hg) (fun d ps q => by rw [q] at hg; cases hg)
        cases h
        exact get_ok hx hb hoo hown hts hI (fun q => hini (Nat.eq_of_beq_eq_true q)) hP hS hd2 hg (fun H1 locs1 hP1 hS1 => k H1 locs1 ls hP1 hS1 (by rw [get_len hg]; exact hsz) hL)
      · cases h
    · split at h
      · rename_i st2 M2 hg
        have hd2 := dec_len hd h9 (fun d lo hi offs q => by rw [q] at hg; cases hg) (fun d ps q => by rw [q] at hg; cases hg)
        cases h
        exact get_ok hx hb hoo hown hts hI (fun q => hini (Nat.eq_of_beq_eq_true q)) hP hS hd2 hg (fun H1 locs1 hP1 hS1 => k H1 locs1 ls hP1 hS1 (by rw [get_len hg]; exact hsz) hL)
      · cases h
    · split at h
      · rename_i st2 M2 c2 s2 hg
        have hd2 := dec_len hd h9 (fun d lo hi offs q => by rw [q] at hg; cases hg) (fun d ps q => by rw [q] at hg; cases hg)
        cases h
        exact new_ok hx hb hoo hown hts hI hP hS hd2 hg hsz hcc hss (fun H1 hP1 hS1 => k H1 locs ls hP1 hS1 (by rw [new_len hg]; omega) hL)
      · cases h
    · cases h
    · split at h
      · cases h
      · rename_i d2
        split at h
        · cases h
        · rename_i st2 M2 hg
          obtain ⟨ix, kind, hk2, hk, k0, k1, k2⟩ := cal_kind hg
          obtain ⟨id, nest, wi, hr, hble, hq, hkk, hroom⟩ := calk_len hk
          cases h
          refine nat_ok hlib hx hb hml hL hoo hown hts hI (by omega) (by omega) hP hS hsz ⟨by omega, by omega⟩ hr hble hq hkk hroom (fun q => ?_) (fun q => ?_) (fun q => ?_) (fun H1 locs1 hP1 hS1 => k H1 locs1 ls hP1 hS1 (by rw [nat_len hq]; exact hsz) hL)
          · have := dec_len hd h9 (fun d lo hi offs q2 => by rw [k1 q] at q2; cases q2) (fun d ps q2 => by rw [k1 q] at q2; cases q2)
            rw [k1 q] at this
            exact this
          · have := dec_len hd h9 (fun d lo hi offs q2 => by rw [k0 q] at q2; cases q2) (fun d ps q2 => by rw [k0 q] at q2; cases q2)
            rw [k0 q] at this
            exact this
          · have := dec_len hd h9 (fun d lo hi offs q2 => by rw [k2 q] at q2; cases q2) (fun d ps q2 => by rw [k2 q] at q2; cases q2)
            rw [k2 q] at this
            exact this
        · rename_i id ls0 rest hg
          split at h
          · rename_i v1 M1 c1 s1 h1
            obtain ⟨ix, kind, hk2, hk, k0, k1, k2⟩ := cal_kind hg
            cases h
            refine call_ok (d' := d2 + 8) hx hb hml hL hoo hown hts hI hP hS hsz (by omega) (by omega) ⟨hcc, hss⟩ hk hk2 (fun q => ?_) (fun q => ?_) (fun q => ?_) (fun o2 y2 cc2 maxL2 ret2 np2 kf2 tab2 as hm hid hls hlen => ?_) (fun H1 locs1 hP1 hS1 => k H1 locs1 ls hP1 hS1 (by rw [go_len SA _ _ _ _ _ _ _ _ _ _ _ h1]; omega) hL)
            · have := dec_len hd h9 (fun d lo hi offs q2 => by rw [k0 q] at q2; cases q2) (fun d ps q2 => by rw [k0 q] at q2; cases q2)
              rw [k0 q] at this
              exact this
            · have := dec_len hd h9 (fun d lo hi offs q2 => by rw [k1 q] at q2; cases q2) (fun d ps q2 => by rw [k1 q] at q2; cases q2)
              rw [k1 q] at this
              exact this
            · have := dec_len hd h9 (fun d lo hi offs q2 => by rw [k2 q] at q2; cases q2) (fun d ps q2 => by rw [k2 q] at q2; cases q2)
              rw [k2 q] at this
              exact this
            · rw [hls] at h1
              exact met_ok (go_snd hlib n) hm hid hlen h1
          · cases h
theorem many_ok (hlib : MetLib l B sa cy dC dI SA) {n d o kf maxL : Nat} {own : String} {cc : ByteArray} (C : Ctx p R s m args meth c B sa cy dC dI SA o kf d maxL own cc) {tab : List (Nat × Nat × Instr)} (htab : tab.all (ckD cc) = true) : ∀ (k : Nat) {pc pc' c0 s0 cells slots : Nat} {vs vs' : Lo} {st st' : List Value} {M M' : Mem}, gMany SA n d o kf tab k pc vs st M = some (pc', vs', st', M', c0, s0) → cells + c0 ≤ R.cells → slots + s0 ≤ R.slots → Wst p l e R s m args below meth c Q B sa cy dC dI maxL (cells + c0) (slots + s0) pc' vs' st' M' → Wst p l e R s m args below meth c Q B sa cy dC dI maxL cells slots pc vs st M := by
  intro k
  induction k with
  | zero =>
    intro pc pc' c0 s0 cells slots vs vs' st st' M M' h hcc hss kk
    cases h
    exact kk
  | succ k ih =>
    intro pc pc' c0 s0 cells slots vs vs' st st' M M' h hcc hss kk
    have h : (match gOne SA n d o kf tab pc vs st M with
      | some (pc', ls', st', M', c, s) => match gMany SA n d o kf tab k pc' ls' st' M' with
        | some (pc2, ls2, st2, M2, c2, s2) => some (pc2, ls2, st2, M2, c + c2, s + s2)
        | none => none
      | none => none) = some (pc', vs', st', M', c0, s0) := h
    split at h
    · rename_i pc1 vs1 st1 M1 c1 s1 h1
      split at h
      · rename_i pc2 vs2 st2 M2 c2 s2 h2
        cases h
        refine one_ok hlib C htab h1 (by omega) (by omega) (ih h2 (by omega) (by omega) ?_)
        rw [Nat.add_assoc, Nat.add_assoc]
        exact kk
      · cases h
    · cases h
end ONE
set_option maxRecDepth 100000 in
/-- the law's table -/
theorem law_tab : (mT250).all (ckD code) = true := ckDs (12, yL_law, cL_law, 7, some .boolean, 1, 0, mT250) (gNth_mem mRs 250 _ rfl)
section LAW
variable {p : Program} {l : Launch} {e : Env} {s : State} {m : MethodId} {below : List Frame} {meth : Method} {c : Code} {b L : Nat} {xs : Nat → Int32} {B : Nat} {sa : Nat → Nat} {cy : Nat → ClassId} {dC : Nat → ClassId} {dI : Nat → Nat → Nat} {sc : List Int32}
theorem law_ctx (C0 : lw_At p s m meth c b L xs) (hI : Inv B sa cy dC dI (some sc) s) : Ctx p room_1 s m #[Value.ref b] meth c B sa cy dC dI (some sc) 12 0 1000 7 "GrassParkLaw" code := by
  obtain ⟨hx, hb, hr, hml, hown, hts, hX, hbl, hlocks, hgv⟩ := C0
  exact ⟨hx, hb, hml, rfl, hown, fun w hw => hts w (w0_lw w hw), hI, (fun q => by cases q), by decide +kernel, by decide +kernel⟩
/-- the rest of the law by a run of `go` -/
theorem ev_W (C0 : lw_At p s m meth c b L xs) (hI : Inv s.heap.size sa cy dC dI (some sc) s) {pc cells slots c0 s0 : Nat} {vs : Lo} {st : List Value} {M M' : Mem} (h : Ev (some sc) 1000 250 pc vs st M (some (.int 1)) M' c0 s0) (hc0 : cells + c0 ≤ 601024) (hs0 : slots + s0 ≤ 7293034) : Wst p l e room_1 s m #[Value.ref b] below meth c (lw_Z below #[Value.ref b] s) s.heap.size sa cy dC dI 7 cells slots pc vs st M := by
  obtain ⟨n, h⟩ := h
  obtain ⟨hx, hb, hr, hml, hown, hts, hX, hbl, hlocks, hgv⟩ := C0
  intro H locs ls hP hS hsz hL
  refine go_snd (lib_ok l s.heap.size sa cy dC dI (some sc)) n 1000 250 pc vs st M _ M' c0 s0 h 12 yL_law code 7 (some .boolean) 1 0 _ rfl "GrassParkLaw" rfl p e room_1 s m #[Value.ref b] below meth c hx hb hml hown (fun w hw => hts w (w0_lw w hw)) hI (fun q => by cases q) (by decide +kernel) (by decide +kernel) H locs cells slots ls _ hP hS hsz hL hc0 hs0 ?_
  intro H1 locs1 ls1 pc1 st1 hP1 hS1 hsz1 hcase
  rcases hcase with ⟨h1, -⟩ | ⟨x, h1, h2, hd, -⟩
  · cases h1
  · cases h1
    subst h2
    refine va_forget (fun q hq => hS1.2.2 q hq) ?_
    refine W.widen hc0 hs0 ?_
    exact lw_ret hx hb hr hlocks hd
/-- from the law's entry -/
theorem start_W (C0 : lw_At p s m meth c b L xs) (hsa : sa 0 = b) (k : Wst p l e room_1 s m #[Value.ref b] below meth c (lw_Z below #[Value.ref b] s) s.heap.size sa cy dC dI 7 0 0 0 [some (.retAddr 0), none, none, none, none, none, none] [] []) : W p l e room_1 s m #[Value.ref b] below meth c s.heap [] 0 0 (lw_Z below #[Value.ref b] s) (entryFrame m ([Value.ref b] : List Value).toArray 7) := by
  have hl := lv_entry ([.ref b]) (n := 7) (Nat.le_of_ble_eq_true rfl)
  rw [lg_entry_eq]
  generalize (lg_sl ([.ref b]) ++ List.replicate (7 - (lg_sl ([.ref b])).length) Slot.unset).toArray = ls at hl ⊢
  have hl : lv_has ls 7 [(0, .ref b)] := hl
  have hL : LV s.heap.size sa 7 [some (.retAddr 0), none, none, none, none, none, none] ls := by
    refine ⟨rfl, _, hl, fun i w hw => ?_⟩
    match i, hw with
    | 0, hw =>
      cases hw
      show (0, Value.ref (sa 0)) ∈ _
      rw [hsa]
      exact List.mem_cons_self
    | 1, hw => cases hw
    | 2, hw => cases hw
    | 3, hw => cases hw
    | 4, hw => cases hw
    | 5, hw => cases hw
    | 6, hw => cases hw
    | n + 7, hw => cases hw
  exact k s.heap [] ls (fun k q h => by cases h) va_S.rf rfl hL
end LAW
/-! WHAT STANDS BETWEEN CALLS: both sides -/
def INV (M : Mem) : Prop := TM sT sG M ∧ ∀ x, x = 24 ∨ x = 28 ∨ x = 32 ∨ x = 34 → FL0 x [] M
noncomputable def fb4 (x : Nat) : Bool := Nat.beq x 24 || (Nat.beq x 28 || (Nat.beq x 32 || Nat.beq x 34))
theorem fb4_V {x : Nat} (h : fb4 x = true) : x = 24 ∨ x = 28 ∨ x = 32 ∨ x = 34 := by
  unfold fb4 at h
  rw [Bool.or_eq_true, Bool.or_eq_true, Bool.or_eq_true] at h
  rcases h with h | h | h | h
  · exact Or.inl (Nat.eq_of_beq_eq_true h)
  · exact Or.inr (Or.inl (Nat.eq_of_beq_eq_true h))
  · exact Or.inr (Or.inr (Or.inl (Nat.eq_of_beq_eq_true h)))
  · exact Or.inr (Or.inr (Or.inr (Nat.eq_of_beq_eq_true h)))
/-- a contract asks for no more, and keeps it -/
noncomputable def invC (c : CN) : Bool := c.2.2.2.1.isEmpty && (c.2.2.2.2.1.all (fun f => f.2.isEmpty && fb4 f.1) && [24, 28, 32, 34].all (fun x => c.2.2.2.2.2.1.all (fun q => !mdIn (dp0 x) q.1 q.2) || c.2.2.2.2.2.2.all (fun s => s.2.2.2.1.any (fun f => Nat.beq f.1 x && f.2.isEmpty))))
theorem inv_c {c : CN} {k d : Nat} {M : Mem} {ws : List Value} (hc : cnOK sT sG FL0 c) (hB : invC c = true) (hm : (gNth mRs c.1).map (fun q => q.2.2.2.1) = some k) (hd : c.2.1 ≤ d) (ha : Two (taOK sT) c.2.2.1 ws) (hI : INV M) : ∃ v M', Ev none d c.1 0 (gPad k (gArgs ws)) [] M v M' 0 0 ∧ INV M' ∧ M'.length = M.length ∧ ∃ s ∈ c.2.2.2.2.2.2, csOK sT FL0 ws v M' s := by
  obtain ⟨b1, b2⟩ := and_t hB
  obtain ⟨b2, b3⟩ := and_t b2
  obtain ⟨hT, hf4⟩ := hI
  cases hq : gNth mRs c.1 with
  | none => rw [hq] at hm; cases hm
  | some q =>
    rw [hq] at hm
    have hm : q.2.2.2.1 = k := Option.some.inj hm
    have h3 : c.2.2.2.1 = [] := List.isEmpty_iff.mp b1
    obtain ⟨v, M', e1, e2, e3, s, e4, e5, _⟩ := hc d M ws q hd hq ha ⟨[], by rw [h3]; trivial, fun f hf => by
      obtain ⟨g1, g2⟩ := and_t (List.all_eq_true.mp b2 f hf)
      obtain ⟨fx, ps⟩ := f
      have g1 : ps = [] := List.isEmpty_iff.mp g1
      subst g1
      exact ⟨[], trivial, hf4 fx (fb4_V g2)⟩⟩ hT
    rw [hm] at e1
    have b4 := fun x hx => List.all_eq_true.mp b3 x hx
    refine ⟨v, M', e1, ⟨e2, fun x hx => ?_⟩, e3.1, s, e4, e5⟩
    have h9 := hf4 x hx
    rcases hx with rfl | rfl | rfl | rfl
    · exact inv_fl (b4 24 (by decide)) e3 e4 e5 h9
    · exact inv_fl (b4 28 (by decide)) e3 e4 e5 h9
    · exact inv_fl (b4 32 (by decide)) e3 e4 e5 h9
    · exact inv_fl (b4 34 (by decide)) e3 e4 e5 h9
theorem frm_nil {M M' : Mem} (h : Frm sT [] M M') : M' = M := by
  refine List.ext_getElem? (fun a => ?_)
  rw [← nth_eq, ← nth_eq]
  cases hM : gNth M a with
  | none =>
    rw [nth_eq] at hM ⊢
    rw [List.getElem?_eq_none_iff] at hM ⊢
    rw [h.1]
    exact hM
  | some e =>
    rcases e with ⟨t, x⟩ | ⟨c, vs⟩
    · obtain ⟨x', h1, h2⟩ := h.2.2 a t x hM
      rw [h1, h2 (fun g _ q => by cases q)]
    · obtain ⟨vs', h1, _, h3⟩ := h.2.1 a c vs hM
      have h4 : vs' = vs := List.ext_getElem? (fun k => by rw [← nth_eq, ← nth_eq]; exact h3 k (fun q => by cases q))
      rw [h1, h4]
theorem nth_app {α : Type} {l : List α} {e : α} {a : Nat} {x : α} (h : gNth l a = some x) : gNth (l ++ [e]) a = some x := by
  rw [nth_eq] at h ⊢
  rw [List.getElem?_append_left (List.getElem?_eq_some_iff.mp h).1]
  exact h
/-- one cell more, behind -/
theorem INV.app {M : Mem} (h : INV M) (e : AE) : INV (M ++ [e]) := by
  obtain ⟨⟨t1, t2⟩, hf⟩ := h
  refine ⟨⟨by rw [List.length_append]; omega, fun a g t h1 h2 => ?_⟩, fun x hx => ?_⟩
  · obtain ⟨e2, q1, q2⟩ := t2 a g t h1 h2
    exact ⟨e2, nth_app q1, q2⟩
  · have h9 := hf x hx
    rcases hx with rfl | rfl | rfl | rfl
    · obtain ⟨lm, lf, lt, ls, a1, a2, a3, a4, a5⟩ := fl0_24 h9
      exact (show P24 _ from ⟨lm, lf, lt, ls, nth_app a1, nth_app a2, nth_app a3, nth_app a4, a5⟩)
    · obtain ⟨t, l, a1, a2⟩ := fl0_28 h9
      exact (show P28 _ from ⟨t, l, nth_app a1, a2⟩)
    · obtain ⟨t, t2, l, lb, a1, a2, a3⟩ := fl0_32 h9
      exact (show P32 _ from ⟨t, t2, l, lb, nth_app a1, nth_app a2, a3⟩)
    · have h8 := fl0_34 h9
      exact (show P34 _ from fun a ha => by
        obtain ⟨vl, l, n, a1, a2, a3, a4, a5, a6, a7⟩ := h8 a ha
        refine ⟨vl, l, n, nth_app a1, a2, a3, nth_app a4, a5, a6, fun k hk => ?_⟩
        obtain ⟨b, b1, us, x, b2, b3⟩ := a7 k hk
        exact ⟨b, b1, us, x, nth_app b2, b3⟩)
noncomputable def chkL : List (Option Nat) → Nat → Bool
  | [], _ => true
  | some b :: r, k => gPc k (fun k => Nat.beq b k && chkL r (k + 1))
  | none :: _, _ => false
theorem chkL_V : ∀ (l : List (Option Nat)) (k0 : Nat), chkL l k0 = true → ∀ j x, gNth l j = some x → x = some (k0 + j) := by
  intro l
  induction l with
  | nil => intro k0 _ j x hj; cases hj
  | cons y r ih =>
    intro k0 h j x hj
    cases y with
    | none => cases h
    | some b =>
      have h : gPc k0 (fun k => Nat.beq b k && chkL r (k + 1)) = true := h
      rw [gPc_eq] at h
      obtain ⟨h1, h2⟩ := and_t h
      cases Nat.eq_of_beq_eq_true h1
      cases j with
      | zero => cases hj; rfl
      | succ j =>
        have := ih (k0 + 1) h2 j x hj
        rw [this]
        congr 1
        omega
noncomputable def wk0B (a : Nat) : Bool := match gNth mem0 a, gNth mem0 (a + 11) with
  | some (.inr (1, vl)), some (.inl (6, .inr (.inr l))) => (match gNth vl 14, gNth vl 15 with
    | some (.ref b), some (.int n) => Nat.beq b (a + 11) && decide (n = 0)
    | _, _ => false) && (chkL l (a + 36) && Nat.beq (gLn l) 60)
  | _, _ => false
theorem wk0_V {a : Nat} (h : wk0B a = true) : WK a mem0 := by
  unfold wk0B at h
  split at h
  rotate_left
  · cases h
  rename_i vl l e1 e2
  obtain ⟨h1, h2⟩ := and_t h
  split at h1
  rotate_left
  · cases h1
  rename_i b n e3 e4
  obtain ⟨h3, h4⟩ := and_t h1
  cases Nat.eq_of_beq_eq_true h3
  cases of_decide_eq_true h4
  obtain ⟨h5, h6⟩ := and_t h2
  have h7 := chkL_V l _ h5
  have h8 := Nat.eq_of_beq_eq_true h6
  rw [gln_len] at h8
  refine ⟨vl, l, 0, e1, e3, e4, e2, fun j k b hj hk => ?_, fun k b hk => ?_, fun k hk => ?_⟩
  · have g1 := Option.some.inj (h7 j _ hj)
    have g2 := Option.some.inj (h7 k _ hk)
    omega
  · have g1 := Option.some.inj (h7 k _ hk)
    have g2 := gNth_lt _ _ _ hk
    omega
  · have o : (0 : Int32).toInt.toNat = 0 := rfl
    rw [o] at hk
    exact absurd hk (Nat.not_lt_zero k)
set_option maxRecDepth 200000 in
theorem wk0_all : ([8, 243, 345, 441, 537].all wk0B) = true := by decide +kernel
theorem INV0 : INV mem0 := by
  obtain ⟨h1, h2, h3, h4⟩ := inv0
  refine ⟨h1, fun x hx => ?_⟩
  rcases hx with rfl | rfl | rfl | rfl
  · exact h2
  · exact h3
  · exact h4
  · exact (show P34 mem0 from fun a ha => wk0_V (List.all_eq_true.mp wk0_all a ha))
set_option maxRecDepth 100000 in
theorem sT_00 : gNth sT 0 = some 0 := by decide +kernel
set_option maxRecDepth 100000 in
theorem sT_08 : gNth sT 8 = some 8 := by decide +kernel
set_option maxRecDepth 100000 in
theorem cl_land : fdB 0 10 2 8 = true := by decide +kernel
set_option maxRecDepth 100000 in
theorem cl_walk : fdB 0 10 3 22 = true := by decide +kernel
/-- the two receivers -/
theorem INV.r0 {M : Mem} (h : INV M) : ∃ vs, gNth M 0 = some (.inr (10, vs)) := by
  obtain ⟨vs, b, h1, _⟩ := h.1.fref sT_00 cl_land
  exact ⟨vs, h1⟩
theorem INV.r633 {M : Mem} (h : INV M) : ∃ vs, gNth M 633 = some (.inr (11, vs)) := by
  obtain ⟨vs, h1, _⟩ := h.1.thr
  exact ⟨vs, h1⟩
/-! WHAT BOTH SIDES HOLD ALIKE: the tapes, the kept images -/
section BZ
variable {M : Mem} {l : List Int32} {a o : Nat} {st : List Value} {ini : Bool} {j x z : Int32}
theorem b0_c (hs : gNth M a = some (.inl (0, .inl l))) (h0 : gAt l j = some x) : gGet .baload none o ini (.int j :: .ref a :: st) M = some (.int x :: st, M) := by
  show (match gNth M a with
    | some (.inl (0, .inl l)) => match gAt l j with
      | some x => some (Value.int x :: st, M)
      | none => none
    | some (.inl (3, .inl l)) => match gAt l j with
      | some x => some (Value.int x :: st, M)
      | none => none
    | _ => none) = _
  rw [hs]
  show (match gAt l j with
      | some x => some (Value.int x :: st, M)
      | none => none) = _
  rw [h0]
theorem bz_c (hs : gNth M a = some (.inl (3, .inl l))) (h0 : gAt l j = some x) : gGet .baload none o ini (.int j :: .ref a :: st) M = some (.int x :: st, M) := by
  show (match gNth M a with
    | some (.inl (0, .inl l)) => match gAt l j with
      | some x => some (Value.int x :: st, M)
      | none => none
    | some (.inl (3, .inl l)) => match gAt l j with
      | some x => some (Value.int x :: st, M)
      | none => none
    | _ => none) = _
  rw [hs]
  show (match gAt l j with
      | some x => some (Value.int x :: st, M)
      | none => none) = _
  rw [h0]
theorem bs0_c (hs : gNth M a = some (.inl (0, .inl l))) (h0 : gAt l j = some x) : gGet .bastore none o ini (.int z :: .int j :: .ref a :: st) M = some (st, gPut M a (.inl (0, .inl (gPut l j.toNatClampNeg (vp_nar .byte z))))) := by
  show (match gNth M a with
    | some (.inl (0, .inl l)) => match gAt l j with
      | some _ => some (st, gPut M a (.inl (0, .inl (gPut l j.toNatClampNeg (vp_nar .byte z)))))
      | none => none
    | some (.inl (3, .inl l)) => match gAt l j with
      | some _ => some (st, gPut M a (.inl (3, .inl (gPut l j.toNatClampNeg (vp_nar .boolean z)))))
      | none => none
    | _ => none) = _
  rw [hs]
  show (match gAt l j with
      | some _ => some (st, gPut M a (.inl (0, .inl (gPut l j.toNatClampNeg (vp_nar .byte z)))))
      | none => none) = _
  rw [h0]
theorem bsz_c (hs : gNth M a = some (.inl (3, .inl l))) (h0 : gAt l j = some x) : gGet .bastore none o ini (.int z :: .int j :: .ref a :: st) M = some (st, gPut M a (.inl (3, .inl (gPut l j.toNatClampNeg (vp_nar .boolean z))))) := by
  show (match gNth M a with
    | some (.inl (0, .inl l)) => match gAt l j with
      | some _ => some (st, gPut M a (.inl (0, .inl (gPut l j.toNatClampNeg (vp_nar .byte z)))))
      | none => none
    | some (.inl (3, .inl l)) => match gAt l j with
      | some _ => some (st, gPut M a (.inl (3, .inl (gPut l j.toNatClampNeg (vp_nar .boolean z)))))
      | none => none
    | _ => none) = _
  rw [hs]
  show (match gAt l j with
      | some _ => some (st, gPut M a (.inl (3, .inl (gPut l j.toNatClampNeg (vp_nar .boolean z)))))
      | none => none) = _
  rw [h0]
end BZ
theorem ec_0 {e : Nat} {M : Mem} {M' : Mem} {v : Option Value} {x : Int32} {p : Nat}  (hz : Ev none e 81 (if x < 0 then 15 else 4) [some (.ref p), some (.int x)] [] M v M' 0 0) : Ev none e 81 0 [some (.ref p), some (.int x)] [] M v M' 0 0 := by
  refine Ev.step (pc' := (if x < 0 then 15 else 4)) (ls' := [some (.ref p), some (.int x)]) (st' := []) (M1 := M) 2 (fun n => rfl) ?_
  exact hz
theorem ec_4 {e : Nat} {M : Mem} {M' : Mem} {v : Option Value} {va2 vp : List Value} {x y4 : Int32} {a2 p : Nat} (hp : gNth M p = some (.inr (10, vp))) (f1 : gNth vp 0 = some (.ref a2)) (ha2 : gNth M a2 = some (.inr (5, va2))) (f3 : gNth va2 1 = some (.int y4)) (hz : Ev none e 81 (if x ≤ y4 then 17 else 15) [some (.ref p), some (.int x)] [] M v M' 0 0) : Ev none e 81 4 [some (.ref p), some (.int x)] [] M v M' 0 0 := by
  refine Ev.step (pc' := 6) (ls' := [some (.ref p), some (.int x)]) (st' := [.ref p, .int x]) (M1 := M) 2 (fun n => rfl) ?_
  refine Ev.step 1 (gs_3 rfl rfl (gf_c rfl hp f1)) ?_
  refine Ev.step 1 (gs_3 rfl rfl (gf_c rfl ha2 f3)) ?_
  refine Ev.step (pc' := (if x ≤ y4 then 17 else 15)) (ls' := [some (.ref p), some (.int x)]) (st' := []) (M1 := M) 1 (fun n => rfl) ?_
  exact hz
theorem ec_15 {e : Nat} {M : Mem} {x : Int32} {p : Nat}  : Ev none e 81 15 [some (.ref p), some (.int x)] [] M (some (.int 0)) M 0 0 := by
  refine Ev.step (pc' := 16) (ls' := [some (.ref p), some (.int x)]) (st' := [.int 0]) (M1 := M) 1 (fun n => rfl) ?_
  exact Ev.ret (fun n => rfl)
theorem ec_17 {e : Nat} {M : Mem} {va2 vp : List Value} {x : Int32} {a2 p : Nat} (hp : gNth M p = some (.inr (10, vp))) (f1 : gNth vp 0 = some (.ref a2)) (ha2 : gNth M a2 = some (.inr (5, va2))) (hla2 : 1 < va2.length) : Ev none e 81 17 [some (.ref p), some (.int x)] [] M (some (.int 1)) (gPut M a2 (.inr (5, gPut va2 1 (.int x)))) 0 0 := by
  refine Ev.step (pc' := 18) (ls' := [some (.ref p), some (.int x)]) (st' := [.ref p]) (M1 := M) 1 (fun n => rfl) ?_
  refine Ev.step 1 (gs_3 rfl rfl (gf_c rfl hp f1)) ?_
  refine Ev.step (pc' := 22) (ls' := [some (.ref p), some (.int x)]) (st' := [.int x, .ref a2]) (M1 := M) 1 (fun n => rfl) ?_
  refine Ev.step 1 (gs_4 rfl rfl (pf_c rfl ha2 hla2 rfl rfl)) ?_
  refine Ev.step (pc' := 26) (ls' := [some (.ref p), some (.int x)]) (st' := [.int 1]) (M1 := (gPut M a2 (.inr (5, gPut va2 1 (.int x))))) 1 (fun n => rfl) ?_
  exact Ev.ret (fun n => rfl)
theorem ff_0 {e : Nat} {M : Mem} {M' : Mem} {v : Option Value} {va2 vp : List Value} {x1 x2 x3 x4 x5 y4 : Int32} {a2 p : Nat} (hp : gNth M p = some (.inr (10, vp))) (f1 : gNth vp 0 = some (.ref a2)) (ha2 : gNth M a2 = some (.inr (5, va2))) (f3 : gNth va2 1 = some (.int y4)) (hz : Ev none e 80 (if (y4 + 20) ≤ 440 then 18 else 16) [some (.ref p), some (.int x1), some (.int x2), some (.int x3), some (.int x4), some (.int x5)] [] M v M' 0 0) : Ev none e 80 0 [some (.ref p), some (.int x1), some (.int x2), some (.int x3), some (.int x4), some (.int x5)] [] M v M' 0 0 := by
  refine Ev.step (pc' := 1) (ls' := [some (.ref p), some (.int x1), some (.int x2), some (.int x3), some (.int x4), some (.int x5)]) (st' := [.ref p]) (M1 := M) 1 (fun n => rfl) ?_
  refine Ev.step 1 (gs_3 rfl rfl (gf_c rfl hp f1)) ?_
  refine Ev.step 1 (gs_3 rfl rfl (gf_c rfl ha2 f3)) ?_
  refine Ev.step (pc' := (if (y4 + 20) ≤ 440 then 18 else 16)) (ls' := [some (.ref p), some (.int x1), some (.int x2), some (.int x3), some (.int x4), some (.int x5)]) (st' := []) (M1 := M) 4 (fun n => rfl) ?_
  exact hz
theorem ff_16 {e : Nat} {M : Mem} {x1 x2 x3 x4 x5 : Int32} {p : Nat}  : Ev none e 80 16 [some (.ref p), some (.int x1), some (.int x2), some (.int x3), some (.int x4), some (.int x5)] [] M (some (.int (-1))) M 0 0 := by
  refine Ev.step (pc' := 17) (ls' := [some (.ref p), some (.int x1), some (.int x2), some (.int x3), some (.int x4), some (.int x5)]) (st' := [.int (-1)]) (M1 := M) 1 (fun n => rfl) ?_
  exact Ev.ret (fun n => rfl)
theorem ff_18 {e : Nat} {M : Mem} {M' : Mem} {v : Option Value} {vp : List Value} {x1 x2 x3 x4 x5 : Int32} {a2 p : Nat} (hp : gNth M p = some (.inr (10, vp))) (f1 : gNth vp 0 = some (.ref a2)) (hz : Ev none e 80 23 [some (.ref p), some (.int x1), some (.int x2), some (.int x3), some (.int x4), some (.int x5)] [.int x1, .ref a2] M v M' 0 0) : Ev none e 80 18 [some (.ref p), some (.int x1), some (.int x2), some (.int x3), some (.int x4), some (.int x5)] [] M v M' 0 0 := by
  refine Ev.step (pc' := 19) (ls' := [some (.ref p), some (.int x1), some (.int x2), some (.int x3), some (.int x4), some (.int x5)]) (st' := [.ref p]) (M1 := M) 1 (fun n => rfl) ?_
  refine Ev.step 1 (gs_3 rfl rfl (gf_c rfl hp f1)) ?_
  refine Ev.step (pc' := 23) (ls' := [some (.ref p), some (.int x1), some (.int x2), some (.int x3), some (.int x4), some (.int x5)]) (st' := [.int x1, .ref a2]) (M1 := M) 1 (fun n => rfl) ?_
  exact hz
theorem ff_26 {e : Nat} {M : Mem} {M' : Mem} {v : Option Value} {vp : List Value} {x1 x2 x3 x4 x5 : Int32} {a2 p : Nat} (hp : gNth M p = some (.inr (10, vp))) (f1 : gNth vp 0 = some (.ref a2)) (hz : Ev none e 80 31 [some (.ref p), some (.int x1), some (.int x2), some (.int x3), some (.int x4), some (.int x5)] [.int x2, .ref a2] M v M' 0 0) : Ev none e 80 26 [some (.ref p), some (.int x1), some (.int x2), some (.int x3), some (.int x4), some (.int x5)] [] M v M' 0 0 := by
  refine Ev.step (pc' := 27) (ls' := [some (.ref p), some (.int x1), some (.int x2), some (.int x3), some (.int x4), some (.int x5)]) (st' := [.ref p]) (M1 := M) 1 (fun n => rfl) ?_
  refine Ev.step 1 (gs_3 rfl rfl (gf_c rfl hp f1)) ?_
  refine Ev.step (pc' := 31) (ls' := [some (.ref p), some (.int x1), some (.int x2), some (.int x3), some (.int x4), some (.int x5)]) (st' := [.int x2, .ref a2]) (M1 := M) 1 (fun n => rfl) ?_
  exact hz
theorem ff_34 {e : Nat} {M : Mem} {M' : Mem} {v : Option Value} {vp : List Value} {x1 x2 x3 x4 x5 : Int32} {a2 p : Nat} (hp : gNth M p = some (.inr (10, vp))) (f1 : gNth vp 0 = some (.ref a2)) (hz : Ev none e 80 39 [some (.ref p), some (.int x1), some (.int x2), some (.int x3), some (.int x4), some (.int x5)] [.int x3, .ref a2] M v M' 0 0) : Ev none e 80 34 [some (.ref p), some (.int x1), some (.int x2), some (.int x3), some (.int x4), some (.int x5)] [] M v M' 0 0 := by
  refine Ev.step (pc' := 35) (ls' := [some (.ref p), some (.int x1), some (.int x2), some (.int x3), some (.int x4), some (.int x5)]) (st' := [.ref p]) (M1 := M) 1 (fun n => rfl) ?_
  refine Ev.step 1 (gs_3 rfl rfl (gf_c rfl hp f1)) ?_
  refine Ev.step (pc' := 39) (ls' := [some (.ref p), some (.int x1), some (.int x2), some (.int x3), some (.int x4), some (.int x5)]) (st' := [.int x3, .ref a2]) (M1 := M) 1 (fun n => rfl) ?_
  exact hz
theorem ff_42 {e : Nat} {M : Mem} {M' : Mem} {v : Option Value} {vp : List Value} {x1 x2 x3 x4 x5 : Int32} {a2 p : Nat} (hp : gNth M p = some (.inr (10, vp))) (f1 : gNth vp 0 = some (.ref a2)) (hz : Ev none e 80 48 [some (.ref p), some (.int x1), some (.int x2), some (.int x3), some (.int x4), some (.int x5)] [.int x4, .ref a2] M v M' 0 0) : Ev none e 80 42 [some (.ref p), some (.int x1), some (.int x2), some (.int x3), some (.int x4), some (.int x5)] [] M v M' 0 0 := by
  refine Ev.step (pc' := 43) (ls' := [some (.ref p), some (.int x1), some (.int x2), some (.int x3), some (.int x4), some (.int x5)]) (st' := [.ref p]) (M1 := M) 1 (fun n => rfl) ?_
  refine Ev.step 1 (gs_3 rfl rfl (gf_c rfl hp f1)) ?_
  refine Ev.step (pc' := 48) (ls' := [some (.ref p), some (.int x1), some (.int x2), some (.int x3), some (.int x4), some (.int x5)]) (st' := [.int x4, .ref a2]) (M1 := M) 1 (fun n => rfl) ?_
  exact hz
theorem ff_51 {e : Nat} {M : Mem} {M' : Mem} {v : Option Value} {vp : List Value} {x1 x2 x3 x4 x5 : Int32} {a2 p : Nat} (hp : gNth M p = some (.inr (10, vp))) (f1 : gNth vp 0 = some (.ref a2)) (hz : Ev none e 80 57 [some (.ref p), some (.int x1), some (.int x2), some (.int x3), some (.int x4), some (.int x5)] [.int x5, .ref a2] M v M' 0 0) : Ev none e 80 51 [some (.ref p), some (.int x1), some (.int x2), some (.int x3), some (.int x4), some (.int x5)] [] M v M' 0 0 := by
  refine Ev.step (pc' := 52) (ls' := [some (.ref p), some (.int x1), some (.int x2), some (.int x3), some (.int x4), some (.int x5)]) (st' := [.ref p]) (M1 := M) 1 (fun n => rfl) ?_
  refine Ev.step 1 (gs_3 rfl rfl (gf_c rfl hp f1)) ?_
  refine Ev.step (pc' := 57) (ls' := [some (.ref p), some (.int x1), some (.int x2), some (.int x3), some (.int x4), some (.int x5)]) (st' := [.int x5, .ref a2]) (M1 := M) 1 (fun n => rfl) ?_
  exact hz
theorem ff_60 {e : Nat} {M : Mem} {va2 vp : List Value} {x1 x2 x3 x4 x5 y4 : Int32} {a2 p : Nat} (hp : gNth M p = some (.inr (10, vp))) (f1 : gNth vp 0 = some (.ref a2)) (ha2 : gNth M a2 = some (.inr (5, va2))) (f3 : gNth va2 1 = some (.int y4)) : Ev none e 80 60 [some (.ref p), some (.int x1), some (.int x2), some (.int x3), some (.int x4), some (.int x5)] [] M (some (.int y4)) M 0 0 := by
  refine Ev.step (pc' := 61) (ls' := [some (.ref p), some (.int x1), some (.int x2), some (.int x3), some (.int x4), some (.int x5)]) (st' := [.ref p]) (M1 := M) 1 (fun n => rfl) ?_
  refine Ev.step 1 (gs_3 rfl rfl (gf_c rfl hp f1)) ?_
  refine Ev.step 1 (gs_3 rfl rfl (gf_c rfl ha2 f3)) ?_
  exact Ev.ret (fun n => rfl)
theorem pt_0 {e : Nat} {M : Mem} {M' : Mem} {v : Option Value} {vt : List Value} {x y2 : Int32} {t : Nat} (ht : gNth M t = some (.inr (5, vt))) (f1 : gNth vt 1 = some (.int y2)) (hz : Ev none e 49 (if y2 ≤ 436 then 11 else 10) [some (.ref t), some (.int x)] [] M v M' 0 0) : Ev none e 49 0 [some (.ref t), some (.int x)] [] M v M' 0 0 := by
  refine Ev.step (pc' := 1) (ls' := [some (.ref t), some (.int x)]) (st' := [.ref t]) (M1 := M) 1 (fun n => rfl) ?_
  refine Ev.step 1 (gs_3 rfl rfl (gf_c rfl ht f1)) ?_
  refine Ev.step (pc' := (if y2 ≤ 436 then 11 else 10)) (ls' := [some (.ref t), some (.int x)]) (st' := []) (M1 := M) 2 (fun n => rfl) ?_
  exact hz
theorem pt_11 {e : Nat} {M : Mem} {M' : Mem} {v : Option Value} {vt : List Value} {x y4 y6 : Int32} {a2 t : Nat} {la2 : List Int32} (ht : gNth M t = some (.inr (5, vt))) (f1 : gNth vt 0 = some (.ref a2)) (f3 : gNth vt 1 = some (.int y4)) (ra2 : gNth M a2 = some (.inl (1, .inl la2))) (g5 : gAt la2 y4 = some y6) (hz : Ev none e 49 24 [some (.ref t), some (.int x)] [] (gPut M a2 (.inl (1, .inl (gPut la2 y4.toNatClampNeg ((x.toUInt32 >>> ((24 : Int32).toUInt32 &&& Int32.toUInt32 31)).toInt32))))) v M' 0 0) : Ev none e 49 11 [some (.ref t), some (.int x)] [] M v M' 0 0 := by
  refine Ev.step (pc' := 12) (ls' := [some (.ref t), some (.int x)]) (st' := [.ref t]) (M1 := M) 1 (fun n => rfl) ?_
  refine Ev.step 1 (gs_3 rfl rfl (gf_c rfl ht f1)) ?_
  refine Ev.step (pc' := 16) (ls' := [some (.ref t), some (.int x)]) (st' := [.ref t, .ref a2]) (M1 := M) 1 (fun n => rfl) ?_
  refine Ev.step 1 (gs_3 rfl rfl (gf_c rfl ht f3)) ?_
  refine Ev.step (pc' := 23) (ls' := [some (.ref t), some (.int x)]) (st' := [.int ((x.toUInt32 >>> ((24 : Int32).toUInt32 &&& Int32.toUInt32 31)).toInt32), .int y4, .ref a2]) (M1 := M) 3 (fun n => rfl) ?_
  refine Ev.step 1 (gs_4 rfl rfl (is_c ra2 g5)) ?_
  exact hz
theorem pt_24 {e : Nat} {M : Mem} {M' : Mem} {v : Option Value} {vt : List Value} {x y4 y6 : Int32} {a2 t : Nat} {la2 : List Int32} (ht : gNth M t = some (.inr (5, vt))) (f1 : gNth vt 0 = some (.ref a2)) (f3 : gNth vt 1 = some (.int y4)) (ra2 : gNth M a2 = some (.inl (1, .inl la2))) (g5 : gAt la2 (y4 + 1) = some y6) (hz : Ev none e 49 43 [some (.ref t), some (.int x)] [] (gPut M a2 (.inl (1, .inl (gPut la2 (y4 + 1).toNatClampNeg (((x.toUInt32 >>> ((16 : Int32).toUInt32 &&& Int32.toUInt32 31)).toInt32) &&& 255))))) v M' 0 0) : Ev none e 49 24 [some (.ref t), some (.int x)] [] M v M' 0 0 := by
  refine Ev.step (pc' := 25) (ls' := [some (.ref t), some (.int x)]) (st' := [.ref t]) (M1 := M) 1 (fun n => rfl) ?_
  refine Ev.step 1 (gs_3 rfl rfl (gf_c rfl ht f1)) ?_
  refine Ev.step (pc' := 29) (ls' := [some (.ref t), some (.int x)]) (st' := [.ref t, .ref a2]) (M1 := M) 1 (fun n => rfl) ?_
  refine Ev.step 1 (gs_3 rfl rfl (gf_c rfl ht f3)) ?_
  refine Ev.step (pc' := 42) (ls' := [some (.ref t), some (.int x)]) (st' := [.int (((x.toUInt32 >>> ((16 : Int32).toUInt32 &&& Int32.toUInt32 31)).toInt32) &&& 255), .int (y4 + 1), .ref a2]) (M1 := M) 7 (fun n => rfl) ?_
  refine Ev.step 1 (gs_4 rfl rfl (is_c ra2 g5)) ?_
  exact hz
theorem pt_43 {e : Nat} {M : Mem} {M' : Mem} {v : Option Value} {vt : List Value} {x y4 y6 : Int32} {a2 t : Nat} {la2 : List Int32} (ht : gNth M t = some (.inr (5, vt))) (f1 : gNth vt 0 = some (.ref a2)) (f3 : gNth vt 1 = some (.int y4)) (ra2 : gNth M a2 = some (.inl (1, .inl la2))) (g5 : gAt la2 (y4 + 2) = some y6) (hz : Ev none e 49 62 [some (.ref t), some (.int x)] [] (gPut M a2 (.inl (1, .inl (gPut la2 (y4 + 2).toNatClampNeg (((x.toUInt32 >>> ((8 : Int32).toUInt32 &&& Int32.toUInt32 31)).toInt32) &&& 255))))) v M' 0 0) : Ev none e 49 43 [some (.ref t), some (.int x)] [] M v M' 0 0 := by
  refine Ev.step (pc' := 44) (ls' := [some (.ref t), some (.int x)]) (st' := [.ref t]) (M1 := M) 1 (fun n => rfl) ?_
  refine Ev.step 1 (gs_3 rfl rfl (gf_c rfl ht f1)) ?_
  refine Ev.step (pc' := 48) (ls' := [some (.ref t), some (.int x)]) (st' := [.ref t, .ref a2]) (M1 := M) 1 (fun n => rfl) ?_
  refine Ev.step 1 (gs_3 rfl rfl (gf_c rfl ht f3)) ?_
  refine Ev.step (pc' := 61) (ls' := [some (.ref t), some (.int x)]) (st' := [.int (((x.toUInt32 >>> ((8 : Int32).toUInt32 &&& Int32.toUInt32 31)).toInt32) &&& 255), .int (y4 + 2), .ref a2]) (M1 := M) 7 (fun n => rfl) ?_
  refine Ev.step 1 (gs_4 rfl rfl (is_c ra2 g5)) ?_
  exact hz
theorem pt_62 {e : Nat} {M : Mem} {M' : Mem} {v : Option Value} {vt : List Value} {x y4 y6 : Int32} {a2 t : Nat} {la2 : List Int32} (ht : gNth M t = some (.inr (5, vt))) (f1 : gNth vt 0 = some (.ref a2)) (f3 : gNth vt 1 = some (.int y4)) (ra2 : gNth M a2 = some (.inl (1, .inl la2))) (g5 : gAt la2 (y4 + 3) = some y6) (hz : Ev none e 49 78 [some (.ref t), some (.int x)] [] (gPut M a2 (.inl (1, .inl (gPut la2 (y4 + 3).toNatClampNeg (x &&& 255))))) v M' 0 0) : Ev none e 49 62 [some (.ref t), some (.int x)] [] M v M' 0 0 := by
  refine Ev.step (pc' := 63) (ls' := [some (.ref t), some (.int x)]) (st' := [.ref t]) (M1 := M) 1 (fun n => rfl) ?_
  refine Ev.step 1 (gs_3 rfl rfl (gf_c rfl ht f1)) ?_
  refine Ev.step (pc' := 67) (ls' := [some (.ref t), some (.int x)]) (st' := [.ref t, .ref a2]) (M1 := M) 1 (fun n => rfl) ?_
  refine Ev.step 1 (gs_3 rfl rfl (gf_c rfl ht f3)) ?_
  refine Ev.step (pc' := 77) (ls' := [some (.ref t), some (.int x)]) (st' := [.int (x &&& 255), .int (y4 + 3), .ref a2]) (M1 := M) 5 (fun n => rfl) ?_
  refine Ev.step 1 (gs_4 rfl rfl (is_c ra2 g5)) ?_
  exact hz
theorem pt_78 {e : Nat} {M : Mem} {vt : List Value} {x y2 : Int32} {t : Nat} (ht : gNth M t = some (.inr (5, vt))) (f1 : gNth vt 1 = some (.int y2)) (hlt : 1 < vt.length) : Ev none e 49 78 [some (.ref t), some (.int x)] [] M none (gPut M t (.inr (5, gPut vt 1 (.int (y2 + 4))))) 0 0 := by
  refine Ev.step (pc' := 80) (ls' := [some (.ref t), some (.int x)]) (st' := [.ref t, .ref t]) (M1 := M) 2 (fun n => rfl) ?_
  refine Ev.step 1 (gs_3 rfl rfl (gf_c rfl ht f1)) ?_
  refine Ev.step (pc' := 85) (ls' := [some (.ref t), some (.int x)]) (st' := [.int (y2 + 4), .ref t]) (M1 := M) 2 (fun n => rfl) ?_
  refine Ev.step 1 (gs_4 rfl rfl (pf_c rfl ht hlt rfl rfl)) ?_
  exact Ev.ret (fun n => rfl)
theorem pt_10 {e : Nat} {M : Mem} {x : Int32} {t : Nat}  : Ev none e 49 10 [some (.ref t), some (.int x)] [] M none M 0 0 := by
  exact Ev.ret (fun n => rfl)
theorem mc_0 {e : Nat} {M : Mem} {M' : Mem} {v : Option Value} {x : Int32} {p : Nat}  (hz : Ev none e 123 3 [some (.ref p), some (.int x)] [.int 2, .int 0, .int x] M v M' 0 0) : Ev none e 123 0 [some (.ref p), some (.int x)] [] M v M' 0 0 := by
  refine Ev.step (pc' := 3) (ls' := [some (.ref p), some (.int x)]) (st' := [.int 2, .int 0, .int x]) (M1 := M) 3 (fun n => rfl) ?_
  exact hz
theorem mc_6 {e : Nat} {M : Mem} {M' : Mem} {v : Option Value} {x y : Int32} {p : Nat}  (hz : Ev none e 123 (if y = 0 then 9 else 11) [some (.ref p), some (.int x)] [] M v M' 0 0) : Ev none e 123 6 [some (.ref p), some (.int x)] [.int y] M v M' 0 0 := by
  refine Ev.step (pc' := (if y = 0 then 9 else 11)) (ls' := [some (.ref p), some (.int x)]) (st' := []) (M1 := M) 1 (fun n => rfl) ?_
  exact hz
theorem mc_9 {e : Nat} {M : Mem} {x : Int32} {p : Nat}  : Ev none e 123 9 [some (.ref p), some (.int x)] [] M (some (.int 0)) M 0 0 := by
  refine Ev.step (pc' := 10) (ls' := [some (.ref p), some (.int x)]) (st' := [.int 0]) (M1 := M) 1 (fun n => rfl) ?_
  exact Ev.ret (fun n => rfl)
theorem mc_11 {e : Nat} {M : Mem} {M' : Mem} {v : Option Value} {vp : List Value} {x : Int32} {a2 a4 a6 p : Nat} {la2 : List (Option Nat)} (hp : gNth M p = some (.inr (10, vp))) (f1 : gNth vp 7 = some (.ref a2)) (ra2 : gNth M a2 = some (.inl (4, .inr (.inr la2)))) (g3 : gAt la2 x = some (some a4)) (f5 : gNth vp 2 = some (.ref a6)) (hz : Ev none e 123 21 [some (.ref p), some (.int x)] [.ref a6, .ref a4] M v M' 0 0) : Ev none e 123 11 [some (.ref p), some (.int x)] [] M v M' 0 0 := by
  refine Ev.step (pc' := 12) (ls' := [some (.ref p), some (.int x)]) (st' := [.ref p]) (M1 := M) 1 (fun n => rfl) ?_
  refine Ev.step 1 (gs_3 rfl rfl (gf_c rfl hp f1)) ?_
  refine Ev.step (pc' := 16) (ls' := [some (.ref p), some (.int x)]) (st' := [.int x, .ref a2]) (M1 := M) 1 (fun n => rfl) ?_
  refine Ev.step 1 (gs_3 rfl rfl (aa_c ra2 g3 rfl)) ?_
  refine Ev.step (pc' := 18) (ls' := [some (.ref p), some (.int x)]) (st' := [.ref p, .ref a4]) (M1 := M) 1 (fun n => rfl) ?_
  refine Ev.step 1 (gs_3 rfl rfl (gf_c rfl hp f5)) ?_
  exact hz
theorem mc_24 {e : Nat} {M : Mem} {vp : List Value} {x y4 : Int32} {a2 p : Nat} {la2 : List Int32} (hp : gNth M p = some (.inr (10, vp))) (f1 : gNth vp 8 = some (.ref a2)) (ra2 : gNth M a2 = some (.inl (3, .inl la2))) (g3 : gAt la2 x = some y4) : Ev none e 123 24 [some (.ref p), some (.int x)] [] M (some (.int 1)) (gPut M a2 (.inl (3, .inl (gPut la2 x.toNatClampNeg (vp_nar .boolean 1))))) 0 0 := by
  refine Ev.step (pc' := 25) (ls' := [some (.ref p), some (.int x)]) (st' := [.ref p]) (M1 := M) 1 (fun n => rfl) ?_
  refine Ev.step 1 (gs_3 rfl rfl (gf_c rfl hp f1)) ?_
  refine Ev.step (pc' := 30) (ls' := [some (.ref p), some (.int x)]) (st' := [.int 1, .int x, .ref a2]) (M1 := M) 2 (fun n => rfl) ?_
  refine Ev.step 1 (gs_4 rfl rfl (bsz_c ra2 g3)) ?_
  refine Ev.step (pc' := 32) (ls' := [some (.ref p), some (.int x)]) (st' := [.int 1]) (M1 := (gPut M a2 (.inl (3, .inl (gPut la2 x.toNatClampNeg (vp_nar .boolean 1)))))) 1 (fun n => rfl) ?_
  exact Ev.ret (fun n => rfl)
theorem rc_0 {e : Nat} {M : Mem} {M' : Mem} {v : Option Value} {x : Int32} {p : Nat}  (hz : Ev none e 124 3 [some (.ref p), some (.int x)] [.int 2, .int 0, .int x] M v M' 0 0) : Ev none e 124 0 [some (.ref p), some (.int x)] [] M v M' 0 0 := by
  refine Ev.step (pc' := 3) (ls' := [some (.ref p), some (.int x)]) (st' := [.int 2, .int 0, .int x]) (M1 := M) 3 (fun n => rfl) ?_
  exact hz
theorem rc_6 {e : Nat} {M : Mem} {M' : Mem} {v : Option Value} {x y : Int32} {p : Nat}  (hz : Ev none e 124 (if y = 0 then 18 else 9) [some (.ref p), some (.int x)] [] M v M' 0 0) : Ev none e 124 6 [some (.ref p), some (.int x)] [.int y] M v M' 0 0 := by
  refine Ev.step (pc' := (if y = 0 then 18 else 9)) (ls' := [some (.ref p), some (.int x)]) (st' := []) (M1 := M) 1 (fun n => rfl) ?_
  exact hz
theorem rc_9 {e : Nat} {M : Mem} {M' : Mem} {v : Option Value} {vp : List Value} {x y4 : Int32} {a2 p : Nat} {la2 : List Int32} (hp : gNth M p = some (.inr (10, vp))) (f1 : gNth vp 8 = some (.ref a2)) (ra2 : gNth M a2 = some (.inl (3, .inl la2))) (g3 : gAt la2 x = some y4) (hz : Ev none e 124 (if y4 = 0 then 18 else 20) [some (.ref p), some (.int x)] [] M v M' 0 0) : Ev none e 124 9 [some (.ref p), some (.int x)] [] M v M' 0 0 := by
  refine Ev.step (pc' := 10) (ls' := [some (.ref p), some (.int x)]) (st' := [.ref p]) (M1 := M) 1 (fun n => rfl) ?_
  refine Ev.step 1 (gs_3 rfl rfl (gf_c rfl hp f1)) ?_
  refine Ev.step (pc' := 14) (ls' := [some (.ref p), some (.int x)]) (st' := [.int x, .ref a2]) (M1 := M) 1 (fun n => rfl) ?_
  refine Ev.step 1 (gs_3 rfl rfl (bz_c ra2 g3)) ?_
  refine Ev.step (pc' := (if y4 = 0 then 18 else 20)) (ls' := [some (.ref p), some (.int x)]) (st' := []) (M1 := M) 1 (fun n => rfl) ?_
  exact hz
theorem rc_18 {e : Nat} {M : Mem} {x : Int32} {p : Nat}  : Ev none e 124 18 [some (.ref p), some (.int x)] [] M (some (.int 0)) M 0 0 := by
  refine Ev.step (pc' := 19) (ls' := [some (.ref p), some (.int x)]) (st' := [.int 0]) (M1 := M) 1 (fun n => rfl) ?_
  exact Ev.ret (fun n => rfl)
theorem rc_20 {e : Nat} {M : Mem} {M' : Mem} {v : Option Value} {vp : List Value} {x : Int32} {a2 a4 a6 p : Nat} {la4 : List (Option Nat)} (hp : gNth M p = some (.inr (10, vp))) (f1 : gNth vp 2 = some (.ref a2)) (f3 : gNth vp 7 = some (.ref a4)) (ra4 : gNth M a4 = some (.inl (4, .inr (.inr la4)))) (g5 : gAt la4 x = some (some a6)) (hz : Ev none e 124 30 [some (.ref p), some (.int x)] [.ref a6, .ref a2] M v M' 0 0) : Ev none e 124 20 [some (.ref p), some (.int x)] [] M v M' 0 0 := by
  refine Ev.step (pc' := 21) (ls' := [some (.ref p), some (.int x)]) (st' := [.ref p]) (M1 := M) 1 (fun n => rfl) ?_
  refine Ev.step 1 (gs_3 rfl rfl (gf_c rfl hp f1)) ?_
  refine Ev.step (pc' := 25) (ls' := [some (.ref p), some (.int x)]) (st' := [.ref p, .ref a2]) (M1 := M) 1 (fun n => rfl) ?_
  refine Ev.step 1 (gs_3 rfl rfl (gf_c rfl hp f3)) ?_
  refine Ev.step (pc' := 29) (ls' := [some (.ref p), some (.int x)]) (st' := [.int x, .ref a4, .ref a2]) (M1 := M) 1 (fun n => rfl) ?_
  refine Ev.step 1 (gs_3 rfl rfl (aa_c ra4 g5 rfl)) ?_
  exact hz
theorem rc_33 {e : Nat} {M : Mem} {x : Int32} {p : Nat}  : Ev none e 124 33 [some (.ref p), some (.int x)] [] M (some (.int 1)) M 0 0 := by
  refine Ev.step (pc' := 34) (ls' := [some (.ref p), some (.int x)]) (st' := [.int 1]) (M1 := M) 1 (fun n => rfl) ?_
  exact Ev.ret (fun n => rfl)
theorem em_0 {e : Nat} {M : Mem} {M' : Mem} {v : Option Value} {vm : List Value} {x : Int32} {m : Nat} (hm : gNth M m = some (.inr (11, vm))) (hlm : 0 < vm.length) (hz : Ev none e 138 (if x < 0 then 17 else 9) [some (.ref m), some (.int x)] [] (gPut M m (.inr (11, gPut vm 0 (.int 0)))) v M' 0 0) : Ev none e 138 0 [some (.ref m), some (.int x)] [] M v M' 0 0 := by
  refine Ev.step (pc' := 2) (ls' := [some (.ref m), some (.int x)]) (st' := [.int 0, .ref m]) (M1 := M) 2 (fun n => rfl) ?_
  refine Ev.step 1 (gs_4 rfl rfl (pf_c rfl hm hlm rfl rfl)) ?_
  refine Ev.step (pc' := (if x < 0 then 17 else 9)) (ls' := [some (.ref m), some (.int x)]) (st' := []) (M1 := (gPut M m (.inr (11, gPut vm 0 (.int 0))))) 2 (fun n => rfl) ?_
  exact hz
theorem em_5 {e : Nat} {M : Mem} {M' : Mem} {v : Option Value} {x : Int32} {m : Nat}  (hz : Ev none e 138 (if x < 0 then 17 else 9) [some (.ref m), some (.int x)] [] M v M' 0 0) : Ev none e 138 5 [some (.ref m), some (.int x)] [] M v M' 0 0 := by
  refine Ev.step (pc' := (if x < 0 then 17 else 9)) (ls' := [some (.ref m), some (.int x)]) (st' := []) (M1 := M) 2 (fun n => rfl) ?_
  exact hz
theorem em_9 {e : Nat} {M : Mem} {M' : Mem} {v : Option Value} {vm : List Value} {x y2 : Int32} {m : Nat} (hm : gNth M m = some (.inr (11, vm))) (f1 : gNth vm 2 = some (.int y2)) (hz : Ev none e 138 (if x ≤ y2 then 19 else 17) [some (.ref m), some (.int x)] [] M v M' 0 0) : Ev none e 138 9 [some (.ref m), some (.int x)] [] M v M' 0 0 := by
  refine Ev.step (pc' := 11) (ls' := [some (.ref m), some (.int x)]) (st' := [.ref m, .int x]) (M1 := M) 2 (fun n => rfl) ?_
  refine Ev.step 1 (gs_3 rfl rfl (gf_c rfl hm f1)) ?_
  refine Ev.step (pc' := (if x ≤ y2 then 19 else 17)) (ls' := [some (.ref m), some (.int x)]) (st' := []) (M1 := M) 1 (fun n => rfl) ?_
  exact hz
theorem em_17 {e : Nat} {M : Mem} {x : Int32} {m : Nat}  : Ev none e 138 17 [some (.ref m), some (.int x)] [] M (some (.int 0)) M 0 0 := by
  refine Ev.step (pc' := 18) (ls' := [some (.ref m), some (.int x)]) (st' := [.int 0]) (M1 := M) 1 (fun n => rfl) ?_
  exact Ev.ret (fun n => rfl)
theorem em_19 {e : Nat} {M : Mem} {vm : List Value} {x : Int32} {m : Nat} (hm : gNth M m = some (.inr (11, vm))) (hlm : 2 < vm.length) : Ev none e 138 19 [some (.ref m), some (.int x)] [] M (some (.int 1)) (gPut M m (.inr (11, gPut vm 2 (.int x)))) 0 0 := by
  refine Ev.step (pc' := 21) (ls' := [some (.ref m), some (.int x)]) (st' := [.int x, .ref m]) (M1 := M) 2 (fun n => rfl) ?_
  refine Ev.step 1 (gs_4 rfl rfl (pf_c rfl hm hlm rfl rfl)) ?_
  refine Ev.step (pc' := 25) (ls' := [some (.ref m), some (.int x)]) (st' := [.int 1]) (M1 := (gPut M m (.inr (11, gPut vm 2 (.int x))))) 1 (fun n => rfl) ?_
  exact Ev.ret (fun n => rfl)
theorem fm_0 {e : Nat} {M : Mem} {M' : Mem} {v : Option Value} {vm : List Value} {x1 x2 x3 x4 x5 : Int32} {m : Nat} (hm : gNth M m = some (.inr (11, vm))) (hlm : 0 < vm.length) (hz : Ev none e 136 5 [some (.ref m), some (.int x1), some (.int x2), some (.int x3), some (.int x4), some (.int x5)] [] (gPut M m (.inr (11, gPut vm 0 (.int 0)))) v M' 0 0) : Ev none e 136 0 [some (.ref m), some (.int x1), some (.int x2), some (.int x3), some (.int x4), some (.int x5)] [] M v M' 0 0 := by
  refine Ev.step (pc' := 2) (ls' := [some (.ref m), some (.int x1), some (.int x2), some (.int x3), some (.int x4), some (.int x5)]) (st' := [.int 0, .ref m]) (M1 := M) 2 (fun n => rfl) ?_
  refine Ev.step 1 (gs_4 rfl rfl (pf_c rfl hm hlm rfl rfl)) ?_
  exact hz
theorem fm_5 {e : Nat} {M : Mem} {M' : Mem} {v : Option Value} {vm : List Value} {x1 x2 x3 x4 x5 y2 : Int32} {m : Nat} (hm : gNth M m = some (.inr (11, vm))) (f1 : gNth vm 2 = some (.int y2)) (hz : Ev none e 136 (if (y2 + 20) ≤ 440 then 20 else 18) [some (.ref m), some (.int x1), some (.int x2), some (.int x3), some (.int x4), some (.int x5)] [] M v M' 0 0) : Ev none e 136 5 [some (.ref m), some (.int x1), some (.int x2), some (.int x3), some (.int x4), some (.int x5)] [] M v M' 0 0 := by
  refine Ev.step (pc' := 6) (ls' := [some (.ref m), some (.int x1), some (.int x2), some (.int x3), some (.int x4), some (.int x5)]) (st' := [.ref m]) (M1 := M) 1 (fun n => rfl) ?_
  refine Ev.step 1 (gs_3 rfl rfl (gf_c rfl hm f1)) ?_
  refine Ev.step (pc' := (if (y2 + 20) ≤ 440 then 20 else 18)) (ls' := [some (.ref m), some (.int x1), some (.int x2), some (.int x3), some (.int x4), some (.int x5)]) (st' := []) (M1 := M) 4 (fun n => rfl) ?_
  exact hz
theorem fm_18 {e : Nat} {M : Mem} {x1 x2 x3 x4 x5 : Int32} {m : Nat}  : Ev none e 136 18 [some (.ref m), some (.int x1), some (.int x2), some (.int x3), some (.int x4), some (.int x5)] [] M (some (.int (-1))) M 0 0 := by
  refine Ev.step (pc' := 19) (ls' := [some (.ref m), some (.int x1), some (.int x2), some (.int x3), some (.int x4), some (.int x5)]) (st' := [.int (-1)]) (M1 := M) 1 (fun n => rfl) ?_
  exact Ev.ret (fun n => rfl)
theorem fm_20 {e : Nat} {M : Mem} {M' : Mem} {v : Option Value} {x1 x2 x3 x4 x5 : Int32} {m : Nat}  (hz : Ev none e 136 22 [some (.ref m), some (.int x1), some (.int x2), some (.int x3), some (.int x4), some (.int x5)] [.int x1, .ref m] M v M' 0 0) : Ev none e 136 20 [some (.ref m), some (.int x1), some (.int x2), some (.int x3), some (.int x4), some (.int x5)] [] M v M' 0 0 := by
  refine Ev.step (pc' := 22) (ls' := [some (.ref m), some (.int x1), some (.int x2), some (.int x3), some (.int x4), some (.int x5)]) (st' := [.int x1, .ref m]) (M1 := M) 2 (fun n => rfl) ?_
  exact hz
theorem fm_25 {e : Nat} {M : Mem} {M' : Mem} {v : Option Value} {x1 x2 x3 x4 x5 : Int32} {m : Nat}  (hz : Ev none e 136 27 [some (.ref m), some (.int x1), some (.int x2), some (.int x3), some (.int x4), some (.int x5)] [.int x2, .ref m] M v M' 0 0) : Ev none e 136 25 [some (.ref m), some (.int x1), some (.int x2), some (.int x3), some (.int x4), some (.int x5)] [] M v M' 0 0 := by
  refine Ev.step (pc' := 27) (ls' := [some (.ref m), some (.int x1), some (.int x2), some (.int x3), some (.int x4), some (.int x5)]) (st' := [.int x2, .ref m]) (M1 := M) 2 (fun n => rfl) ?_
  exact hz
theorem fm_30 {e : Nat} {M : Mem} {M' : Mem} {v : Option Value} {x1 x2 x3 x4 x5 : Int32} {m : Nat}  (hz : Ev none e 136 32 [some (.ref m), some (.int x1), some (.int x2), some (.int x3), some (.int x4), some (.int x5)] [.int x3, .ref m] M v M' 0 0) : Ev none e 136 30 [some (.ref m), some (.int x1), some (.int x2), some (.int x3), some (.int x4), some (.int x5)] [] M v M' 0 0 := by
  refine Ev.step (pc' := 32) (ls' := [some (.ref m), some (.int x1), some (.int x2), some (.int x3), some (.int x4), some (.int x5)]) (st' := [.int x3, .ref m]) (M1 := M) 2 (fun n => rfl) ?_
  exact hz
theorem fm_35 {e : Nat} {M : Mem} {M' : Mem} {v : Option Value} {x1 x2 x3 x4 x5 : Int32} {m : Nat}  (hz : Ev none e 136 38 [some (.ref m), some (.int x1), some (.int x2), some (.int x3), some (.int x4), some (.int x5)] [.int x4, .ref m] M v M' 0 0) : Ev none e 136 35 [some (.ref m), some (.int x1), some (.int x2), some (.int x3), some (.int x4), some (.int x5)] [] M v M' 0 0 := by
  refine Ev.step (pc' := 38) (ls' := [some (.ref m), some (.int x1), some (.int x2), some (.int x3), some (.int x4), some (.int x5)]) (st' := [.int x4, .ref m]) (M1 := M) 2 (fun n => rfl) ?_
  exact hz
theorem fm_41 {e : Nat} {M : Mem} {M' : Mem} {v : Option Value} {x1 x2 x3 x4 x5 : Int32} {m : Nat}  (hz : Ev none e 136 44 [some (.ref m), some (.int x1), some (.int x2), some (.int x3), some (.int x4), some (.int x5)] [.int x5, .ref m] M v M' 0 0) : Ev none e 136 41 [some (.ref m), some (.int x1), some (.int x2), some (.int x3), some (.int x4), some (.int x5)] [] M v M' 0 0 := by
  refine Ev.step (pc' := 44) (ls' := [some (.ref m), some (.int x1), some (.int x2), some (.int x3), some (.int x4), some (.int x5)]) (st' := [.int x5, .ref m]) (M1 := M) 2 (fun n => rfl) ?_
  exact hz
theorem fm_47 {e : Nat} {M : Mem} {vm : List Value} {x1 x2 x3 x4 x5 y2 : Int32} {m : Nat} (hm : gNth M m = some (.inr (11, vm))) (f1 : gNth vm 2 = some (.int y2)) : Ev none e 136 47 [some (.ref m), some (.int x1), some (.int x2), some (.int x3), some (.int x4), some (.int x5)] [] M (some (.int y2)) M 0 0 := by
  refine Ev.step (pc' := 48) (ls' := [some (.ref m), some (.int x1), some (.int x2), some (.int x3), some (.int x4), some (.int x5)]) (st' := [.ref m]) (M1 := M) 1 (fun n => rfl) ?_
  refine Ev.step 1 (gs_3 rfl rfl (gf_c rfl hm f1)) ?_
  exact Ev.ret (fun n => rfl)
theorem fo_0 {e : Nat} {M : Mem} {M' : Mem} {v : Option Value} {x : Int32} {m : Nat} {w2 : Option Value}  (hz : Ev none e 137 3 [some (.ref m), some (.int x), some (.int 24)] [] M v M' 0 0) : Ev none e 137 0 [some (.ref m), some (.int x), w2] [] M v M' 0 0 := by
  refine Ev.step (pc' := 3) (ls' := [some (.ref m), some (.int x), some (.int 24)]) (st' := []) (M1 := M) 2 (fun n => rfl) ?_
  exact hz
theorem fo_3 {e : Nat} {M : Mem} {M' : Mem} {v : Option Value} {k x : Int32} {m : Nat}  (hz : Ev none e 137 (if k < 0 then 36 else 7) [some (.ref m), some (.int x), some (.int k)] [] M v M' 0 0) : Ev none e 137 3 [some (.ref m), some (.int x), some (.int k)] [] M v M' 0 0 := by
  refine Ev.step (pc' := (if k < 0 then 36 else 7)) (ls' := [some (.ref m), some (.int x), some (.int k)]) (st' := []) (M1 := M) 2 (fun n => rfl) ?_
  exact hz
theorem fo_7 {e : Nat} {M : Mem} {M' : Mem} {v : Option Value} {vm : List Value} {k x y4 y6 : Int32} {a2 m : Nat} {la2 : List Int32} (hm : gNth M m = some (.inr (11, vm))) (f1 : gNth vm 1 = some (.ref a2)) (f3 : gNth vm 2 = some (.int y4)) (ra2 : gNth M a2 = some (.inl (0, .inl la2))) (g5 : gAt la2 y4 = some y6) (hz : Ev none e 137 20 [some (.ref m), some (.int x), some (.int k)] [] (gPut M a2 (.inl (0, .inl (gPut la2 y4.toNatClampNeg (vp_nar .byte ((x >>> (k &&& 31)).toInt8.toInt32)))))) v M' 0 0) : Ev none e 137 7 [some (.ref m), some (.int x), some (.int k)] [] M v M' 0 0 := by
  refine Ev.step (pc' := 8) (ls' := [some (.ref m), some (.int x), some (.int k)]) (st' := [.ref m]) (M1 := M) 1 (fun n => rfl) ?_
  refine Ev.step 1 (gs_3 rfl rfl (gf_c rfl hm f1)) ?_
  refine Ev.step (pc' := 12) (ls' := [some (.ref m), some (.int x), some (.int k)]) (st' := [.ref m, .ref a2]) (M1 := M) 1 (fun n => rfl) ?_
  refine Ev.step 1 (gs_3 rfl rfl (gf_c rfl hm f3)) ?_
  refine Ev.step (pc' := 19) (ls' := [some (.ref m), some (.int x), some (.int k)]) (st' := [.int ((x >>> (k &&& 31)).toInt8.toInt32), .int y4, .ref a2]) (M1 := M) 4 (fun n => rfl) ?_
  refine Ev.step 1 (gs_4 rfl rfl (bs0_c ra2 g5)) ?_
  exact hz
theorem fo_20 {e : Nat} {M : Mem} {M' : Mem} {v : Option Value} {vm : List Value} {k x y2 : Int32} {m : Nat} (hm : gNth M m = some (.inr (11, vm))) (f1 : gNth vm 2 = some (.int y2)) (hlm : 2 < vm.length) (hz : Ev none e 137 3 [some (.ref m), some (.int x), some (.int (k + Int32.ofInt (-8)))] [] (gPut M m (.inr (11, gPut vm 2 (.int (y2 + 1))))) v M' 0 0) : Ev none e 137 20 [some (.ref m), some (.int x), some (.int k)] [] M v M' 0 0 := by
  refine Ev.step (pc' := 22) (ls' := [some (.ref m), some (.int x), some (.int k)]) (st' := [.ref m, .ref m]) (M1 := M) 2 (fun n => rfl) ?_
  refine Ev.step 1 (gs_3 rfl rfl (gf_c rfl hm f1)) ?_
  refine Ev.step (pc' := 27) (ls' := [some (.ref m), some (.int x), some (.int k)]) (st' := [.int (y2 + 1), .ref m]) (M1 := M) 2 (fun n => rfl) ?_
  refine Ev.step 1 (gs_4 rfl rfl (pf_c rfl hm hlm rfl rfl)) ?_
  refine Ev.step (pc' := 33) (ls' := [some (.ref m), some (.int x), some (.int (k + Int32.ofInt (-8)))]) (st' := []) (M1 := (gPut M m (.inr (11, gPut vm 2 (.int (y2 + 1)))))) 1 (gs_1 (i := .iinc 2 (-8)) rfl rfl rfl) ?_
  refine Ev.step (pc' := 3) (ls' := [some (.ref m), some (.int x), some (.int (k + Int32.ofInt (-8)))]) (st' := []) (M1 := (gPut M m (.inr (11, gPut vm 2 (.int (y2 + 1)))))) 1 (fun n => rfl) ?_
  exact hz
theorem fo_36 {e : Nat} {M : Mem} {k x : Int32} {m : Nat}  : Ev none e 137 36 [some (.ref m), some (.int x), some (.int k)] [] M none M 0 0 := by
  exact Ev.ret (fun n => rfl)
set_option maxRecDepth 100000 in
theorem tp_1 : gNth sT 1 = some 1 := by decide +kernel
set_option maxRecDepth 100000 in
theorem tp_633 : gNth sT 633 = some 61 := by decide +kernel
set_option maxRecDepth 100000 in
theorem tp_b : fdB 0 10 0 1 = true ∧ fdB 1 5 0 2 = true ∧ fiB 1 5 1 0 440 = true ∧ irB 2 440 0 255 = true := by refine ⟨?_, ?_, ?_, ?_⟩ <;> decide +kernel
set_option maxRecDepth 100000 in
theorem tp_m : fiB 61 11 2 0 440 = true ∧ fdB 61 11 1 62 = true ∧ rwB 62 0 440 (-128) 127 = true := by refine ⟨?_, ?_, ?_⟩ <;> decide +kernel
set_option maxRecDepth 100000 in
theorem tp_u : (gNth sU 1) = some (some 1) ∧ gNth sU 62 = some (some 634) ∧ gNth sU 57 = some (some 340) := by refine ⟨?_, ?_, ?_⟩ <;> decide +kernel
set_option maxRecDepth 100000 in
theorem tp_k : fdB 0 10 8 57 = true ∧ rwB 57 3 3 0 1 = true := by refine ⟨?_, ?_⟩ <;> decide +kernel
/-- the tape's length: of the class, of the reference -/
def LC (z : Int32) (M : Mem) : Prop := ∃ vs, gNth M 1 = some (.inr (5, vs)) ∧ gNth vs 1 = some (.int z)
def LR (z : Int32) (M : Mem) : Prop := ∃ vs, gNth M 633 = some (.inr (11, vs)) ∧ gNth vs 2 = some (.int z)
/-- which images are kept -/
def KC (l : List Int32) (M : Mem) : Prop := gNth M 340 = some (.inl (3, .inl l))
def KR (l : List Int32) (M : Mem) : Prop := gNth M 638 = some (.inl (3, .inl l))
theorem LC.frm {z : Int32} {md : Md} {M M' : Mem} (h : LC z M) (hF : Frm sT md M M') (hm : (5, 1) ∉ md) : LC z M' := by
  obtain ⟨vs, h1, h2⟩ := h
  obtain ⟨vs', h3, _, h4⟩ := hF.2.1 1 5 vs h1
  exact ⟨vs', h3, (h4 1 hm).trans h2⟩
theorem LR.frm {z : Int32} {md : Md} {M M' : Mem} (h : LR z M) (hF : Frm sT md M M') (hm : (11, 2) ∉ md) : LR z M' := by
  obtain ⟨vs, h1, h2⟩ := h
  obtain ⟨vs', h3, _, h4⟩ := hF.2.1 633 11 vs h1
  exact ⟨vs', h3, (h4 2 hm).trans h2⟩
set_option maxRecDepth 100000 in
theorem sT_340 : gNth sT 340 = some 57 ∧ gNth sT 638 = some 66 := by refine ⟨?_, ?_⟩ <;> decide +kernel
theorem KC.frm {l : List Int32} {md : Md} {M M' : Mem} (h : KC l M) (hF : Frm sT md M M') (hm : (1057, 0) ∉ md) : KC l M' := by
  obtain ⟨x', h1, h2⟩ := hF.2.2 340 3 (.inl l) h
  rw [h2 (fun g hg => by rw [sT_340.1] at hg; cases hg; exact hm)] at h1
  exact h1
theorem KR.frm {l : List Int32} {md : Md} {M M' : Mem} (h : KR l M) (hF : Frm sT md M M') (hm : (1066, 0) ∉ md) : KR l M' := by
  obtain ⟨x', h1, h2⟩ := hF.2.2 638 3 (.inl l) h
  rw [h2 (fun g hg => by rw [sT_340.2] at hg; cases hg; exact hm)] at h1
  exact h1
theorem INV.mv {md : Md} {M M' : Mem} (hV : INV M) (hT : TM sT sG M') (hF : Frm sT md M M') (h1 : ∀ q ∈ md, q ∉ dp0 24) (h2 : ∀ q ∈ md, q ∉ dp0 28) (h3 : ∀ q ∈ md, q ∉ dp0 32) (h4 : ∀ q ∈ md, q ∉ dp0 34) : INV M' := by
  refine ⟨hT, fun x hx => ?_⟩
  have h9 := hV.2 x hx
  rcases hx with rfl | rfl | rfl | rfl
  · exact dp0_frm 0 24 _ _ _ _ hF h1 h9
  · exact dp0_frm 0 28 _ _ _ _ hF h2 h9
  · exact dp0_frm 0 32 _ _ _ _ hF h3 h9
  · exact dp0_frm 0 34 _ _ _ _ hF h4 h9
/-- the class's tape -/
theorem INV.tape {M : Mem} (hT : TM sT sG M) : ∃ vp, gNth M 0 = some (.inr (10, vp)) ∧ gNth vp 0 = some (.ref 1) := by
  obtain ⟨vp, b, h1, h2, h3⟩ := hT.fref sT_00 tp_b.1
  have h4 := sU_ok b 1 1 h3 tp_u.1
  subst h4
  exact ⟨vp, h1, h2⟩
theorem LC.rng {z : Int32} {M : Mem} (hT : TM sT sG M) (h : LC z M) : 0 ≤ z.toInt ∧ z.toInt ≤ 440 := by
  obtain ⟨vs, h1, h2⟩ := h
  obtain ⟨vs', y, g1, g2, _, g3, g4, _⟩ := hT.fnum tp_1 tp_b.2.2.1
  cases h1.symm.trans g1
  cases h2.symm.trans g2
  exact ⟨g3, g4⟩
theorem LC.set {z w : Int32} {M : Mem} (hT : TM sT sG M) {vs : List Value} (h1 : gNth M 1 = some (.inr (5, vs))) (w0 : 0 ≤ w.toInt) (w1 : w.toInt ≤ 440) : TM sT sG (gPut M 1 (.inr (5, gPut vs 1 (.int w)))) ∧ Frm sT [(5, 1)] M (gPut M 1 (.inr (5, gPut vs 1 (.int w)))) ∧ LC w (gPut M 1 (.inr (5, gPut vs 1 (.int w)))) ∧ 1 < vs.length := by
  obtain ⟨vs', y, g1, g2, g5, _, _, g4⟩ := hT.fnum tp_1 tp_b.2.2.1
  cases h1.symm.trans g1
  refine ⟨g4 w w0 w1, Frm.fld h1 (List.mem_singleton.mpr rfl), ⟨gPut vs 1 (.int w), ?_, ?_⟩, g5⟩
  · rw [nth_put, if_pos ⟨rfl, gNth_lt _ _ _ h1⟩]
  · rw [nth_put, if_pos ⟨rfl, g5⟩]
theorem LR.rng {z : Int32} {M : Mem} (hT : TM sT sG M) (h : LR z M) : 0 ≤ z.toInt ∧ z.toInt ≤ 440 := by
  obtain ⟨vs, h1, h2⟩ := h
  obtain ⟨vs', y, g1, g2, _, g3, g4, _⟩ := hT.fnum tp_633 tp_m.1
  cases h1.symm.trans g1
  cases h2.symm.trans g2
  exact ⟨g3, g4⟩
theorem LR.set {w : Int32} {M : Mem} (hT : TM sT sG M) {vs : List Value} (h1 : gNth M 633 = some (.inr (11, vs))) (w0 : 0 ≤ w.toInt) (w1 : w.toInt ≤ 440) : TM sT sG (gPut M 633 (.inr (11, gPut vs 2 (.int w)))) ∧ Frm sT [(11, 2)] M (gPut M 633 (.inr (11, gPut vs 2 (.int w)))) ∧ LR w (gPut M 633 (.inr (11, gPut vs 2 (.int w)))) ∧ 2 < vs.length := by
  obtain ⟨vs', y, g1, g2, g5, _, _, g4⟩ := hT.fnum tp_633 tp_m.1
  cases h1.symm.trans g1
  refine ⟨g4 w w0 w1, Frm.fld h1 (List.mem_singleton.mpr rfl), ⟨gPut vs 2 (.int w), ?_, ?_⟩, g5⟩
  · rw [nth_put, if_pos ⟨rfl, gNth_lt _ _ _ h1⟩]
  · rw [nth_put, if_pos ⟨rfl, g5⟩]
/-- thrown = 0, the reference's first step -/
theorem LR.thr {z : Int32} {M : Mem} (hT : TM sT sG M) (h : LR z M) : ∃ vs, gNth M 633 = some (.inr (11, vs)) ∧ 0 < vs.length ∧ TM sT sG (gPut M 633 (.inr (11, gPut vs 0 (.int 0)))) ∧ Frm sT [(11, 0)] M (gPut M 633 (.inr (11, gPut vs 0 (.int 0)))) ∧ gNth (gPut M 633 (.inr (11, gPut vs 0 (.int 0)))) 633 = some (.inr (11, gPut vs 0 (.int 0))) ∧ gNth (gPut vs 0 (.int 0)) 2 = some (.int z) := by
  obtain ⟨vs, h1, h2⟩ := h
  obtain ⟨vs', g1, g2, g3⟩ := hT.thr
  cases h1.symm.trans g1
  refine ⟨vs, h1, by omega, g3, Frm.fld h1 (List.mem_singleton.mpr rfl), by rw [nth_put, if_pos ⟨rfl, gNth_lt _ _ _ h1⟩], by rw [nth_put, if_neg (fun q => absurd q.1 (by decide))]; exact h2⟩
def endA (z x : Int32) : Int32 := if x < 0 then 0 else if x ≤ z then 1 else 0
def endZ (z x : Int32) : Int32 := if x < 0 then z else if x ≤ z then x else z
theorem ev_endC {e : Nat} {M : Mem} {z x : Int32} (hV : INV M) (hz : LC z M) : ∃ M', Ev none (e + 1) 81 0 [some (.ref 0), some (.int x)] [] M (some (.int (endA z x))) M' 0 0 ∧ INV M' ∧ Frm sT [(5, 1)] M M' ∧ LC (endZ z x) M' := by
  obtain ⟨vp, p1, p2⟩ := INV.tape hV.1
  obtain ⟨z0, z1⟩ := hz.rng hV.1
  obtain ⟨vs, h1, h2⟩ := hz
  unfold endA endZ
  by_cases hx : x < 0
  · rw [if_pos hx, if_pos hx]
    exact ⟨M, ec_0 (by rw [if_pos hx]; exact ec_15), hV, Frm.refl _, ⟨vs, h1, h2⟩⟩
  · rw [if_neg hx, if_neg hx]
    by_cases hy : x ≤ z
    · rw [if_pos hy, if_pos hy]
      have x0 : 0 ≤ x.toInt := by rw [Int32.lt_iff_toInt_lt] at hx; exact Int.not_lt.mp hx
      have x1 : x.toInt ≤ z.toInt := Int32.le_iff_toInt_le.mp hy
      obtain ⟨t1, t2, t3, t4⟩ := LC.set (z := z) (w := x) hV.1 h1 x0 (by omega)
      exact ⟨_, ec_0 (by rw [if_neg hx]; exact ec_4 p1 p2 h1 h2 (by rw [if_pos hy]; exact ec_17 p1 p2 h1 t4)), hV.mv t1 t2 (by decide) (by decide) (by decide) (by decide), t2, t3⟩
    · rw [if_neg hy, if_neg hy]
      exact ⟨M, ec_0 (by rw [if_neg hx]; exact ec_4 p1 p2 h1 h2 (by rw [if_neg hy]; exact ec_15)), hV, Frm.refl _, ⟨vs, h1, h2⟩⟩
theorem ev_endR {e : Nat} {M : Mem} {z x : Int32} (hV : INV M) (hz : LR z M) : ∃ M', Ev none (e + 1) 138 0 [some (.ref 633), some (.int x)] [] M (some (.int (endA z x))) M' 0 0 ∧ INV M' ∧ Frm sT [(11, 0), (11, 2)] M M' ∧ LR (endZ z x) M' := by
  obtain ⟨z0, z1⟩ := hz.rng hV.1
  obtain ⟨vs, h1, h0, t1, t2, t3, t4⟩ := hz.thr hV.1
  have hV1 := hV.mv t1 t2 (by decide) (by decide) (by decide) (by decide)
  have t5 : Frm sT [(11, 0), (11, 2)] M _ := t2.more (fun q hq => by cases List.mem_singleton.mp hq; exact List.mem_cons_self)
  unfold endA endZ
  by_cases hx : x < 0
  · rw [if_pos hx, if_pos hx]
    exact ⟨_, em_0 h1 h0 (by rw [if_pos hx]; exact em_17), hV1, t5, ⟨_, t3, t4⟩⟩
  · rw [if_neg hx, if_neg hx]
    by_cases hy : x ≤ z
    · rw [if_pos hy, if_pos hy]
      have x0 : 0 ≤ x.toInt := by rw [Int32.lt_iff_toInt_lt] at hx; exact Int.not_lt.mp hx
      have x1 : x.toInt ≤ z.toInt := Int32.le_iff_toInt_le.mp hy
      obtain ⟨u1, u2, u3, u4⟩ := LR.set (w := x) t1 t3 x0 (by omega)
      exact ⟨_, em_0 h1 h0 (by rw [if_neg hx]; exact em_9 t3 t4 (by rw [if_pos hy]; exact em_19 t3 u4)), hV1.mv u1 u2 (by decide) (by decide) (by decide) (by decide), t5.trans (u2.more (fun q hq => by cases List.mem_singleton.mp hq; exact List.mem_cons_of_mem _ List.mem_cons_self)), u3⟩
    · rw [if_neg hy, if_neg hy]
      exact ⟨_, em_0 h1 h0 (by rw [if_neg hx]; exact em_9 t3 t4 (by rw [if_neg hy]; exact em_17)), hV1, t5, ⟨_, t3, t4⟩⟩
theorem ush_b (x : Int32) : 0 ≤ ((x.toUInt32 >>> ((24 : Int32).toUInt32 &&& Int32.toUInt32 31)).toInt32).toInt ∧ ((x.toUInt32 >>> ((24 : Int32).toUInt32 &&& Int32.toUInt32 31)).toInt32).toInt ≤ 255 := by
  obtain ⟨z, h1, h2, h3⟩ := opI_V (i := .iushr) (x := x) (y := 24) (ix := ivF) (iy := (24, 24)) (p := (0, 255)) (full_in x) ⟨by decide, by decide⟩ (by rfl) []
  have h4 : (x.toUInt32 >>> ((24 : Int32).toUInt32 &&& Int32.toUInt32 31)).toInt32 = z := by
    have h5 := Option.some.inj h1
    injection h5 with h6 _
    injection h6
  rw [h4]
  exact ⟨h2, h3⟩
theorem a255_b (x : Int32) : 0 ≤ (x &&& 255).toInt ∧ (x &&& 255).toInt ≤ 255 := by
  obtain ⟨m, h1, h2⟩ := and_le x (n := 255) (by decide)
  have h3 : x &&& 255 = nI m := h2
  rw [h3, nI_toInt (by omega)]
  omega
/-- the class's tape and its row -/
theorem tp_st {vs : List Value} {b : Nat} {l : List Int32} {M : Mem} (hT : TM sT sG M) (h1 : gNth M 1 = some (.inr (5, vs))) (h2 : gNth M b = some (.inl (1, .inl l))) (hl : l.length = 440) (sb : gNth sT b = some 2) (n : Nat) {w : Int32} (hw : 0 ≤ w.toInt ∧ w.toInt ≤ 255) : TM sT sG (gPut M b (.inl (1, .inl (gPut l n w)))) ∧ Frm sT [(5, 1), (1002, 0)] M (gPut M b (.inl (1, .inl (gPut l n w)))) ∧ gNth (gPut M b (.inl (1, .inl (gPut l n w)))) 1 = some (.inr (5, vs)) ∧ gNth (gPut M b (.inl (1, .inl (gPut l n w)))) b = some (.inl (1, .inl (gPut l n w))) ∧ (gPut l n w).length = 440 := by
  obtain ⟨l', r1, r2, _, r4⟩ := hT.irow sb tp_b.2.2.2
  cases h2.symm.trans r1
  refine ⟨r4 n w hw.1 hw.2, Frm.row h2 sb (by decide), ?_, by rw [nth_put, if_pos ⟨rfl, gNth_lt _ _ _ h2⟩], by rw [put_len]; exact hl⟩
  rw [nth_put, if_neg]
  · exact h1
  · intro q
    have q1 : 1 = b := q.1
    subst q1
    rw [h1] at h2
    cases h2
theorem ev_put {e : Nat} {M : Mem} {z x : Int32} (hT : TM sT sG M) (hz : LC z M) (z0 : 0 ≤ z.toInt) (z1 : z.toInt ≤ 436) : ∃ M', Ev none e 49 0 [some (.ref 1), some (.int x)] [] M none M' 0 0 ∧ TM sT sG M' ∧ Frm sT [(5, 1), (1002, 0)] M M' ∧ LC (z + 4) M' := by
  obtain ⟨vs, h1, h2⟩ := hz
  obtain ⟨vs', b, q1, q2, sb⟩ := hT.fref tp_1 tp_b.2.1
  cases h1.symm.trans q1
  obtain ⟨l, r1, r2, _⟩ := hT.irow sb tp_b.2.2.2
  obtain ⟨n, hn⟩ : ∃ n : Nat, z.toInt = (n : Int) := ⟨z.toInt.toNat, by omega⟩
  have o1 : (1 : Int32).toInt = 1 := rfl
  have o2 : (2 : Int32).toInt = 2 := rfl
  have o3 : (3 : Int32).toInt = 3 := rfl
  have o4 : (4 : Int32).toInt = 4 := rfl
  have e1 : (z + 1).toInt = ((n + 1 : Nat) : Int) := by rw [i32_add (by omega) (by omega)]; omega
  have e2 : (z + 2).toInt = ((n + 2 : Nat) : Int) := by rw [i32_add (by omega) (by omega)]; omega
  have e3 : (z + 3).toInt = ((n + 3 : Nat) : Int) := by rw [i32_add (by omega) (by omega)]; omega
  have e4 : (z + 4).toInt = z.toInt + 4 := by rw [i32_add (by omega) (by omega)]; omega
  obtain ⟨y0, a0, _⟩ := at_c (l := l) hn (by omega)
  obtain ⟨t1, f1, g1, i1, n1⟩ := tp_st hT h1 r1 r2 sb z.toNatClampNeg (ush_b x)
  obtain ⟨y1, a1, _⟩ := at_c (l := gPut l z.toNatClampNeg ((x.toUInt32 >>> ((24 : Int32).toUInt32 &&& Int32.toUInt32 31)).toInt32)) e1 (by omega)
  obtain ⟨t2, f2, g2, i2, n2⟩ := tp_st t1 g1 i1 n1 sb (z + 1).toNatClampNeg (a255_b ((x.toUInt32 >>> ((16 : Int32).toUInt32 &&& Int32.toUInt32 31)).toInt32))
  obtain ⟨y2, a2, _⟩ := at_c (l := gPut (gPut l z.toNatClampNeg ((x.toUInt32 >>> ((24 : Int32).toUInt32 &&& Int32.toUInt32 31)).toInt32)) (z + 1).toNatClampNeg ((x.toUInt32 >>> ((16 : Int32).toUInt32 &&& Int32.toUInt32 31)).toInt32 &&& 255)) e2 (by omega)
  obtain ⟨t3, f3, g3, i3, n3⟩ := tp_st t2 g2 i2 n2 sb (z + 2).toNatClampNeg (a255_b ((x.toUInt32 >>> ((8 : Int32).toUInt32 &&& Int32.toUInt32 31)).toInt32))
  obtain ⟨y3, a3, _⟩ := at_c (l := gPut (gPut (gPut l z.toNatClampNeg ((x.toUInt32 >>> ((24 : Int32).toUInt32 &&& Int32.toUInt32 31)).toInt32)) (z + 1).toNatClampNeg ((x.toUInt32 >>> ((16 : Int32).toUInt32 &&& Int32.toUInt32 31)).toInt32 &&& 255)) (z + 2).toNatClampNeg ((x.toUInt32 >>> ((8 : Int32).toUInt32 &&& Int32.toUInt32 31)).toInt32 &&& 255)) e3 (by omega)
  obtain ⟨t4, f4, g4, i4, n4⟩ := tp_st t3 g3 i3 n3 sb (z + 3).toNatClampNeg (a255_b x)
  obtain ⟨u1, u2, u3, u4⟩ := LC.set (z := z) (w := z + 4) t4 g4 (by omega) (by omega)
  have f5 : Frm sT [(5, 1), (1002, 0)] _ _ := u2.more (md' := [(5, 1), (1002, 0)]) (fun q hq => by cases List.mem_singleton.mp hq; exact List.mem_cons_self)
  have hle : z ≤ 436 := Int32.le_iff_toInt_le.mpr z1
  exact ⟨_, pt_0 h1 h2 (by rw [if_pos hle]; exact pt_11 h1 q2 h2 r1 a0 (pt_24 g1 q2 h2 i1 a1 (pt_43 g2 q2 h2 i2 a2 (pt_62 g3 q2 h2 i3 a3 (pt_78 g4 h2 u4))))), u1, (((f1.trans f2).trans f3).trans f4).trans f5, u3⟩
theorem cal_pu {M : Mem} {vs : List Value} {x : Int32} {rest : List Value} (hM : gNth M 1 = some (.inr (5, vs))) (hr : gRoom rest = true) : gCal (.invokevirtual 91) 10 (.int x :: .ref 1 :: rest) M = some (.inr (49, [some (.ref 1), some (.int x)], rest)) := by
  show @cond (Option ((List Value × Mem) ⊕ (Nat × Lo × List Value))) (true && gRecv M (.ref 1) 5 && gRoom rest && true) (some (.inr (49, [some (.ref 1), some (.int x)], rest))) none = _
  rw [recv_c hM, hr]
  rfl
def feedA (z : Int32) : Int32 := if z + 20 ≤ 440 then z + 20 else -1
def feedZ (z : Int32) : Int32 := if z + 20 ≤ 440 then z + 20 else z
theorem feed_5 {z : Int32} (z0 : 0 ≤ z.toInt) (h : z.toInt ≤ 420) : z + 4 + 4 + 4 + 4 + 4 = z + 20 := by
  have o4 : (4 : Int32).toInt = 4 := rfl
  have o20 : (20 : Int32).toInt = 20 := rfl
  have e1 : (z + 4).toInt = z.toInt + 4 := by rw [i32_add (by omega) (by omega)]; omega
  have e2 : (z + 4 + 4).toInt = z.toInt + 8 := by rw [i32_add (by omega) (by omega)]; omega
  have e3 : (z + 4 + 4 + 4).toInt = z.toInt + 12 := by rw [i32_add (by omega) (by omega)]; omega
  have e4 : (z + 4 + 4 + 4 + 4).toInt = z.toInt + 16 := by rw [i32_add (by omega) (by omega)]; omega
  exact Int32.toInt_inj.mp (by rw [i32_add (by omega) (by omega), i32_add (x := z) (by omega) (by omega)]; omega)
theorem ev_feedC {e : Nat} {M : Mem} {z x1 x2 x3 x4 x5 : Int32} (hV : INV M) (hz : LC z M) : ∃ M', Ev none (e + 1) 80 0 [some (.ref 0), some (.int x1), some (.int x2), some (.int x3), some (.int x4), some (.int x5)] [] M (some (.int (feedA z))) M' 0 0 ∧ INV M' ∧ Frm sT [(5, 1), (1002, 0)] M M' ∧ LC (feedZ z) M' := by
  obtain ⟨vp, p1, p2⟩ := INV.tape hV.1
  obtain ⟨z0, z1⟩ := hz.rng hV.1
  have o20 : (20 : Int32).toInt = 20 := rfl
  have o44 : (440 : Int32).toInt = 440 := rfl
  have e20 : (z + 20).toInt = z.toInt + 20 := by rw [i32_add (by omega) (by omega)]; omega
  unfold feedA feedZ
  by_cases hy : z + 20 ≤ 440
  rotate_left
  · rw [if_neg hy, if_neg hy]
    obtain ⟨vs, h1, h2⟩ := id hz
    exact ⟨M, ff_0 p1 p2 h1 h2 (by rw [if_neg hy]; exact ff_16), hV, Frm.refl _, hz⟩
  rw [if_pos hy, if_pos hy]
  have hz2 : z.toInt ≤ 420 := by have := Int32.le_iff_toInt_le.mp hy; omega
  have o4 : (4 : Int32).toInt = 4 := rfl
  have e1 : (z + 4).toInt = z.toInt + 4 := by rw [i32_add (by omega) (by omega)]; omega
  have e2 : (z + 4 + 4).toInt = z.toInt + 8 := by rw [i32_add (by omega) (by omega)]; omega
  have e3 : (z + 4 + 4 + 4).toInt = z.toInt + 12 := by rw [i32_add (by omega) (by omega)]; omega
  have e4 : (z + 4 + 4 + 4 + 4).toInt = z.toInt + 16 := by rw [i32_add (by omega) (by omega)]; omega
  obtain ⟨M1, a1, T1, F1, L1⟩ := ev_put (e := e) (x := x1) hV.1 hz z0 (by omega)
  obtain ⟨M2, a2, T2, F2, L2⟩ := ev_put (e := e) (x := x2) T1 L1 (by omega) (by omega)
  obtain ⟨M3, a3, T3, F3, L3⟩ := ev_put (e := e) (x := x3) T2 L2 (by omega) (by omega)
  obtain ⟨M4, a4, T4, F4, L4⟩ := ev_put (e := e) (x := x4) T3 L3 (by omega) (by omega)
  obtain ⟨M5, a5, T5, F5, L5⟩ := ev_put (e := e) (x := x5) T4 L4 (by omega) (by omega)
  have F9 := (((F1.trans F2).trans F3).trans F4).trans F5
  rw [feed_5 z0 hz2] at L5
  obtain ⟨v0, c0, d0⟩ := id hz
  obtain ⟨v1, c1, d1⟩ := L1
  obtain ⟨v2, c2, d2⟩ := L2
  obtain ⟨v3, c3, d3⟩ := L3
  obtain ⟨v4, c4, d4⟩ := L4
  obtain ⟨v5, c5, d5⟩ := id L5
  obtain ⟨w1, i1, j1⟩ := INV.tape T1
  obtain ⟨w2, i2, j2⟩ := INV.tape T2
  obtain ⟨w3, i3, j3⟩ := INV.tape T3
  obtain ⟨w4, i4, j4⟩ := INV.tape T4
  obtain ⟨w5, i5, j5⟩ := INV.tape T5
  refine ⟨M5, ff_0 p1 p2 c0 d0 ?_, hV.mv T5 F9 (by decide) (by decide) (by decide) (by decide), F9, L5⟩
  rw [if_pos hy]
  refine ff_18 p1 p2 (Ev.call0 (fun n => gs_7 rfl rfl (cal_pu c0 rfl)) a1 ?_)
  refine ff_26 i1 j1 (Ev.call0 (fun n => gs_7 rfl rfl (cal_pu c1 rfl)) a2 ?_)
  refine ff_34 i2 j2 (Ev.call0 (fun n => gs_7 rfl rfl (cal_pu c2 rfl)) a3 ?_)
  refine ff_42 i3 j3 (Ev.call0 (fun n => gs_7 rfl rfl (cal_pu c3 rfl)) a4 ?_)
  refine ff_51 i4 j4 (Ev.call0 (fun n => gs_7 rfl rfl (cal_pu c4 rfl)) a5 ?_)
  exact ff_60 i5 j5 c5 d5
/-- one byte of the reference's tape -/
theorem fo_it {e : Nat} {M : Mem} {z x k : Int32} (hT : TM sT sG M) (hz : LR z M) (z0 : 0 ≤ z.toInt) (z1 : z.toInt ≤ 439) (hk : ¬ k < 0) : ∃ M1, (∀ v M', Ev none e 137 3 [some (.ref 633), some (.int x), some (.int (k + Int32.ofInt (-8)))] [] M1 v M' 0 0 → Ev none e 137 3 [some (.ref 633), some (.int x), some (.int k)] [] M v M' 0 0) ∧ TM sT sG M1 ∧ Frm sT [(11, 2), (1062, 0)] M M1 ∧ LR (z + 1) M1 := by
  obtain ⟨vs, h1, h2⟩ := hz
  obtain ⟨vs', b, q1, q2, sb⟩ := hT.fref tp_633 tp_m.2.1
  cases h1.symm.trans q1
  obtain ⟨l, r1, r2, r3⟩ := hT.mrow sb tp_m.2.2
  obtain ⟨n, hn⟩ : ∃ n : Nat, z.toInt = (n : Int) := ⟨z.toInt.toNat, by omega⟩
  obtain ⟨y0, a0, _⟩ := at_c (l := l) hn (by omega)
  have o1 : (1 : Int32).toInt = 1 := rfl
  have e1 : (z + 1).toInt = z.toInt + 1 := by rw [i32_add (by omega) (by omega)]; omega
  have hb : b ≠ 633 := fun q => by
    subst q
    rw [h1] at r1
    cases r1
  have t1 : TM sT sG (gPut M b (.inl (0, .inl (gPut l z.toNatClampNeg (vp_nar .byte ((x >>> (k &&& 31)).toInt8.toInt32)))))) := hT.putrow (n := 440) (lo := -128) (hi := 127) sb (by decide +kernel) (by rw [put_len]; exact r2) (fun j w hj => by
    rw [nth_put] at hj
    split at hj
    · cases hj; exact nar_b _
    · exact r3 j w hj)
  have f1 : Frm sT [(11, 2), (1062, 0)] M _ := Frm.row (y := .inl (gPut l z.toNatClampNeg (vp_nar .byte ((x >>> (k &&& 31)).toInt8.toInt32)))) r1 sb (by decide)
  have g1 : gNth (gPut M b (.inl (0, .inl (gPut l z.toNatClampNeg (vp_nar .byte ((x >>> (k &&& 31)).toInt8.toInt32)))))) 633 = some (.inr (11, vs)) := by
    rw [nth_put, if_neg (fun q => hb q.1.symm)]
    exact h1
  obtain ⟨u1, u2, u3, u4⟩ := LR.set (w := z + 1) t1 g1 (by omega) (by omega)
  exact ⟨_, fun v M' h => fo_3 (by rw [if_neg hk]; exact fo_7 h1 q2 h2 r1 a0 (fo_20 g1 h2 u4 h)), u1, f1.trans (u2.more (fun q hq => by cases List.mem_singleton.mp hq; exact List.mem_cons_self)), u3⟩
theorem ev_four {e : Nat} {M : Mem} {z x : Int32} {w2 : Option Value} (hT : TM sT sG M) (hz : LR z M) (z0 : 0 ≤ z.toInt) (z1 : z.toInt ≤ 436) : ∃ M', Ev none e 137 0 [some (.ref 633), some (.int x), w2] [] M none M' 0 0 ∧ TM sT sG M' ∧ Frm sT [(11, 2), (1062, 0)] M M' ∧ LR (z + 1 + 1 + 1 + 1) M' := by
  have o1 : (1 : Int32).toInt = 1 := rfl
  have e1 : (z + 1).toInt = z.toInt + 1 := by rw [i32_add (by omega) (by omega)]; omega
  have e2 : (z + 1 + 1).toInt = z.toInt + 2 := by rw [i32_add (by omega) (by omega)]; omega
  have e3 : (z + 1 + 1 + 1).toInt = z.toInt + 3 := by rw [i32_add (by omega) (by omega)]; omega
  obtain ⟨M1, a1, T1, F1, L1⟩ := fo_it (e := e) (x := x) (k := 24) hT hz z0 (by omega) (by decide)
  obtain ⟨M2, a2, T2, F2, L2⟩ := fo_it (e := e) (x := x) (k := 24 + Int32.ofInt (-8)) T1 L1 (by omega) (by omega) (by decide)
  obtain ⟨M3, a3, T3, F3, L3⟩ := fo_it (e := e) (x := x) (k := 24 + Int32.ofInt (-8) + Int32.ofInt (-8)) T2 L2 (by omega) (by omega) (by decide)
  obtain ⟨M4, a4, T4, F4, L4⟩ := fo_it (e := e) (x := x) (k := 24 + Int32.ofInt (-8) + Int32.ofInt (-8) + Int32.ofInt (-8)) T3 L3 (by omega) (by omega) (by decide)
  exact ⟨M4, fo_0 (a1 _ _ (a2 _ _ (a3 _ _ (a4 _ _ (fo_3 (by rw [if_pos (by decide)]; exact fo_36)))))), T4, ((F1.trans F2).trans F3).trans F4, L4⟩
theorem four_4 {z : Int32} (z0 : 0 ≤ z.toInt) (h : z.toInt ≤ 436) : z + 1 + 1 + 1 + 1 = z + 4 := by
  have o1 : (1 : Int32).toInt = 1 := rfl
  have o4 : (4 : Int32).toInt = 4 := rfl
  have e1 : (z + 1).toInt = z.toInt + 1 := by rw [i32_add (by omega) (by omega)]; omega
  have e2 : (z + 1 + 1).toInt = z.toInt + 2 := by rw [i32_add (by omega) (by omega)]; omega
  have e3 : (z + 1 + 1 + 1).toInt = z.toInt + 3 := by rw [i32_add (by omega) (by omega)]; omega
  exact Int32.toInt_inj.mp (by rw [i32_add (by omega) (by omega), i32_add (x := z) (by omega) (by omega)]; omega)
theorem cal_fo {M : Mem} {vs : List Value} {x : Int32} {rest : List Value} (hM : gNth M 633 = some (.inr (11, vs))) (hr : gRoom rest = true) : gCal (.invokevirtual 10) 11 (.int x :: .ref 633 :: rest) M = some (.inr (137, [some (.ref 633), some (.int x), none], rest)) := by
  show @cond (Option ((List Value × Mem) ⊕ (Nat × Lo × List Value))) (true && gRecv M (.ref 633) 11 && gRoom rest && true) (some (.inr (137, [some (.ref 633), some (.int x), none], rest))) none = _
  rw [recv_c hM, hr]
  rfl
theorem ev_feedR {e : Nat} {M : Mem} {z x1 x2 x3 x4 x5 : Int32} (hV : INV M) (hz : LR z M) : ∃ M', Ev none (e + 1) 136 0 [some (.ref 633), some (.int x1), some (.int x2), some (.int x3), some (.int x4), some (.int x5)] [] M (some (.int (feedA z))) M' 0 0 ∧ INV M' ∧ Frm sT [(11, 0), (11, 2), (1062, 0)] M M' ∧ LR (feedZ z) M' := by
  obtain ⟨z0, z1⟩ := hz.rng hV.1
  obtain ⟨vs, h1, h0, T0, F0, c0, d0⟩ := hz.thr hV.1
  have F0' : Frm sT [(11, 0), (11, 2), (1062, 0)] M _ := F0.more (fun q hq => by cases List.mem_singleton.mp hq; exact List.mem_cons_self)
  have o20 : (20 : Int32).toInt = 20 := rfl
  have o44 : (440 : Int32).toInt = 440 := rfl
  have e20 : (z + 20).toInt = z.toInt + 20 := by rw [i32_add (by omega) (by omega)]; omega
  unfold feedA feedZ
  by_cases hy : z + 20 ≤ 440
  rotate_left
  · rw [if_neg hy, if_neg hy]
    exact ⟨_, fm_0 h1 h0 (fm_5 c0 d0 (by rw [if_neg hy]; exact fm_18)), hV.mv T0 F0 (by decide) (by decide) (by decide) (by decide), F0', ⟨_, c0, d0⟩⟩
  rw [if_pos hy, if_pos hy]
  have hz2 : z.toInt ≤ 420 := by have := Int32.le_iff_toInt_le.mp hy; omega
  have o4 : (4 : Int32).toInt = 4 := rfl
  have e1 : (z + 4).toInt = z.toInt + 4 := by rw [i32_add (by omega) (by omega)]; omega
  have e2 : (z + 4 + 4).toInt = z.toInt + 8 := by rw [i32_add (by omega) (by omega)]; omega
  have e3 : (z + 4 + 4 + 4).toInt = z.toInt + 12 := by rw [i32_add (by omega) (by omega)]; omega
  have e4 : (z + 4 + 4 + 4 + 4).toInt = z.toInt + 16 := by rw [i32_add (by omega) (by omega)]; omega
  obtain ⟨M1, a1, T1, F1, L1⟩ := ev_four (e := e) (x := x1) (w2 := none) T0 ⟨_, c0, d0⟩ z0 (by omega)
  rw [four_4 z0 (by omega)] at L1
  obtain ⟨M2, a2, T2, F2, L2⟩ := ev_four (e := e) (x := x2) (w2 := none) T1 L1 (by omega) (by omega)
  rw [four_4 (by omega) (by omega)] at L2
  obtain ⟨M3, a3, T3, F3, L3⟩ := ev_four (e := e) (x := x3) (w2 := none) T2 L2 (by omega) (by omega)
  rw [four_4 (by omega) (by omega)] at L3
  obtain ⟨M4, a4, T4, F4, L4⟩ := ev_four (e := e) (x := x4) (w2 := none) T3 L3 (by omega) (by omega)
  rw [four_4 (by omega) (by omega)] at L4
  obtain ⟨M5, a5, T5, F5, L5⟩ := ev_four (e := e) (x := x5) (w2 := none) T4 L4 (by omega) (by omega)
  rw [four_4 (by omega) (by omega), feed_5 z0 hz2] at L5
  have F9 : Frm sT [(11, 0), (11, 2), (1062, 0)] M M5 := F0'.trans (((((F1.trans F2).trans F3).trans F4).trans F5).more (fun q hq => List.mem_cons_of_mem _ hq))
  obtain ⟨v1, c1, d1⟩ := L1
  obtain ⟨v2, c2, d2⟩ := L2
  obtain ⟨v3, c3, d3⟩ := L3
  obtain ⟨v4, c4, d4⟩ := L4
  obtain ⟨v5, c5, d5⟩ := id L5
  refine ⟨M5, fm_0 h1 h0 (fm_5 c0 d0 ?_), hV.mv T5 F9 (by decide) (by decide) (by decide) (by decide), F9, L5⟩
  rw [if_pos hy]
  refine fm_20 (Ev.call0 (fun n => gs_7 rfl rfl (cal_fo c0 rfl)) a1 ?_)
  refine fm_25 (Ev.call0 (fun n => gs_7 rfl rfl (cal_fo c1 rfl)) a2 ?_)
  refine fm_30 (Ev.call0 (fun n => gs_7 rfl rfl (cal_fo c2 rfl)) a3 ?_)
  refine fm_35 (Ev.call0 (fun n => gs_7 rfl rfl (cal_fo c3 rfl)) a4 ?_)
  refine fm_41 (Ev.call0 (fun n => gs_7 rfl rfl (cal_fo c4 rfl)) a5 ?_)
  exact fm_47 c5 d5
/-! THE TAPES' BYTES, exactly -/
theorem b255 (a : Int32) : a &&& 255 = nI (a.toBitVec.toNat % 256) := pk_and a 8 (by decide)
theorem tn256 (a : Int32) : ((a.toBitVec.toNat % 256 : Nat) : Int) = a.toInt % 256 := by
  have h : a.toInt = a.toBitVec.toInt := rfl
  have hb := a.toBitVec.isLt
  rw [h, BitVec.toInt_eq_toNat_cond]
  split <;> omega
theorem bm256 (x : Int) : Int.bmod x 256 % 256 = x % 256 := by
  unfold Int.bmod
  dsimp only
  split <;> omega
theorem nar256 (y : Int32) : (vp_nar .byte y).toInt % 256 = y.toInt % 256 := by
  have h : vp_nar .byte y = y.toInt8.toInt32 := rfl
  rw [h, Int8.toInt_toInt32, Int32.toInt_toInt8]
  exact bm256 _
theorem i8_256 (y : Int32) : (y.toInt8.toInt32).toInt % 256 = y.toInt % 256 := nar256 y
/-- the reference's byte, read as the class holds it -/
theorem byt_r (x s : Int32) (n : Nat) (hs : (s.toBitVec.smod 32).toNat = n) : (vp_nar .byte ((x >>> s).toInt8.toInt32)) &&& 255 = nI (((x.toInt / (2 : Int) ^ n) % 256).toNat) := by
  rw [b255]
  congr 1
  have h1 := tn256 (vp_nar .byte ((x >>> s).toInt8.toInt32))
  rw [nar256, i8_256, pk_shr x s n hs, Int.shiftRight_eq_div_pow] at h1
  have h2 : ((2 ^ n : Nat) : Int) = (2 : Int) ^ n := by rw [Int.natCast_pow]; rfl
  rw [h2] at h1
  omega
theorem byt_u (x : Int32) (n : Nat) (s : Int32) (hs : ((s.toUInt32 &&& Int32.toUInt32 31).toBitVec % 32).toNat = n) : ((x.toUInt32 >>> (s.toUInt32 &&& Int32.toUInt32 31)).toInt32).toBitVec.toNat = x.toBitVec.toNat / 2 ^ n := pk_ushr x s n hs
theorem eq_nI (a : Int32) : a = nI a.toBitVec.toNat := Int32.toBitVec_inj.mp (by show _ = BitVec.ofNat 32 _; simp)
theorem by_0 (x : Int32) : (vp_nar .byte ((x >>> ((24 : Int32) &&& 31)).toInt8.toInt32)) &&& 255 = ((x.toUInt32 >>> ((24 : Int32).toUInt32 &&& Int32.toUInt32 31)).toInt32) := by
  rw [byt_r x (24 &&& 31) 24 (by decide), eq_nI ((x.toUInt32 >>> ((24 : Int32).toUInt32 &&& Int32.toUInt32 31)).toInt32), byt_u x 24 24 (by decide)]
  congr 1
  have h := tn256 x
  have hb := x.toBitVec.isLt
  have h2 : x.toInt = x.toBitVec.toInt := rfl
  rw [h2, BitVec.toInt_eq_toNat_cond]
  have e1 : (2 : Int) ^ 24 = 16777216 := by decide
  have e2 : (2 : Nat) ^ 24 = 16777216 := by decide
  rw [e1, e2]
  split <;> omega

theorem by_1 (x : Int32) : (vp_nar .byte ((x >>> ((24 + Int32.ofInt (-8) : Int32) &&& 31)).toInt8.toInt32)) &&& 255 = ((x.toUInt32 >>> ((16 : Int32).toUInt32 &&& Int32.toUInt32 31)).toInt32 &&& 255) := by
  rw [byt_r x ((24 + Int32.ofInt (-8)) &&& 31) 16 (by decide), b255, byt_u x 16 16 (by decide)]
  congr 1
  have hb := x.toBitVec.isLt
  have h2 : x.toInt = x.toBitVec.toInt := rfl
  rw [h2, BitVec.toInt_eq_toNat_cond]
  have e1 : (2 : Int) ^ 16 = 65536 := by decide
  have e2 : (2 : Nat) ^ 16 = 65536 := by decide
  rw [e1, e2]
  split <;> omega

theorem by_2 (x : Int32) : (vp_nar .byte ((x >>> ((24 + Int32.ofInt (-8) + Int32.ofInt (-8) : Int32) &&& 31)).toInt8.toInt32)) &&& 255 = ((x.toUInt32 >>> ((8 : Int32).toUInt32 &&& Int32.toUInt32 31)).toInt32 &&& 255) := by
  rw [byt_r x ((24 + Int32.ofInt (-8) + Int32.ofInt (-8)) &&& 31) 8 (by decide), b255, byt_u x 8 8 (by decide)]
  congr 1
  have hb := x.toBitVec.isLt
  have h2 : x.toInt = x.toBitVec.toInt := rfl
  rw [h2, BitVec.toInt_eq_toNat_cond]
  have e1 : (2 : Int) ^ 8 = 256 := by decide
  have e2 : (2 : Nat) ^ 8 = 256 := by decide
  rw [e1, e2]
  split <;> omega

theorem by_3 (x : Int32) : (vp_nar .byte ((x >>> ((24 + Int32.ofInt (-8) + Int32.ofInt (-8) + Int32.ofInt (-8) : Int32) &&& 31)).toInt8.toInt32)) &&& 255 = x &&& 255 := by
  rw [byt_r x ((24 + Int32.ofInt (-8) + Int32.ofInt (-8) + Int32.ofInt (-8)) &&& 31) 0 (by decide), b255]
  congr 1
  have h := tn256 x
  have e1 : (2 : Int) ^ 0 = 1 := by decide
  rw [e1, Int.ediv_one]
  omega

/-- the rows of the tapes -/
def BC (l : List Int32) (M : Mem) : Prop := gNth M 2 = some (.inl (1, .inl l))
def BR (l : List Int32) (M : Mem) : Prop := gNth M 634 = some (.inl (0, .inl l))
set_option maxRecDepth 100000 in
theorem tp_u2 : gNth sU 2 = some (some 2) ∧ gNth sT 2 = some 2 ∧ gNth sT 634 = some 62 := by refine ⟨?_, ?_, ?_⟩ <;> decide +kernel
theorem BC.frm {l : List Int32} {md : Md} {M M' : Mem} (h : BC l M) (hF : Frm sT md M M') (hm : (1002, 0) ∉ md) : BC l M' := by
  obtain ⟨x', h1, h2⟩ := hF.2.2 2 1 (.inl l) h
  rw [h2 (fun g hg => by rw [tp_u2.2.1] at hg; cases hg; exact hm)] at h1
  exact h1
theorem BR.frm {l : List Int32} {md : Md} {M M' : Mem} (h : BR l M) (hF : Frm sT md M M') (hm : (1062, 0) ∉ md) : BR l M' := by
  obtain ⟨x', h1, h2⟩ := hF.2.2 634 0 (.inl l) h
  rw [h2 (fun g hg => by rw [tp_u2.2.2] at hg; cases hg; exact hm)] at h1
  exact h1
noncomputable def pu4 (l : List Int32) (z x : Int32) : List Int32 := gPut (gPut (gPut (gPut l z.toNatClampNeg ((x.toUInt32 >>> ((24 : Int32).toUInt32 &&& Int32.toUInt32 31)).toInt32)) (z + 1).toNatClampNeg ((x.toUInt32 >>> ((16 : Int32).toUInt32 &&& Int32.toUInt32 31)).toInt32 &&& 255)) (z + 2).toNatClampNeg ((x.toUInt32 >>> ((8 : Int32).toUInt32 &&& Int32.toUInt32 31)).toInt32 &&& 255)) (z + 3).toNatClampNeg (x &&& 255)
noncomputable def fo1 (l : List Int32) (z x k : Int32) : List Int32 := gPut l z.toNatClampNeg (vp_nar .byte ((x >>> (k &&& 31)).toInt8.toInt32))
noncomputable def fo4 (l : List Int32) (z x : Int32) : List Int32 := fo1 (fo1 (fo1 (fo1 l z x (24)) (z + 1) x (24 + Int32.ofInt (-8))) (z + 1 + 1) x (24 + Int32.ofInt (-8) + Int32.ofInt (-8))) (z + 1 + 1 + 1) x (24 + Int32.ofInt (-8) + Int32.ofInt (-8) + Int32.ofInt (-8))
/-- as far as the tape is told, class and reference hold the same bytes -/
def BBp (n : Nat) (lb lt : List Int32) : Prop := ∀ k, k < n → ∃ y, gNth lt k = some y ∧ gNth lb k = some (y &&& 255)
theorem BBp.step {n : Nat} {lb lt : List Int32} {b c : Int32} (h : BBp n lb lt) (hb : c &&& 255 = b) (l1 : n < lb.length) (l2 : n < lt.length) : BBp (n + 1) (gPut lb n b) (gPut lt n c) := by
  intro k hk
  rw [nth_put, nth_put]
  by_cases hkn : k = n
  · rw [if_pos ⟨hkn, by omega⟩, if_pos ⟨hkn, by omega⟩]
    exact ⟨c, rfl, by rw [hb]⟩
  · rw [if_neg (fun q => hkn q.1), if_neg (fun q => hkn q.1)]
    exact h k (by omega)
theorem BBp.less {n m : Nat} {lb lt : List Int32} (h : BBp n lb lt) (hm : m ≤ n) : BBp m lb lt := fun k hk => h k (by omega)
theorem pu4_len {l : List Int32} {z x : Int32} : (pu4 l z x).length = l.length := by unfold pu4; rw [put_len, put_len, put_len, put_len]
theorem fo4_len {l : List Int32} {z x : Int32} : (fo4 l z x).length = l.length := by unfold fo4 fo1; rw [put_len, put_len, put_len, put_len]
theorem BBp.four {n : Nat} {lb lt : List Int32} {z x : Int32} (h : BBp n lb lt) (hz : z.toInt = (n : Int)) (l1 : n + 4 ≤ lb.length) (l2 : n + 4 ≤ lt.length) (hn : n ≤ 440) : BBp (n + 4) (pu4 lb z x) (fo4 lt z x) := by
  have o1 : (1 : Int32).toInt = 1 := rfl
  have o2 : (2 : Int32).toInt = 2 := rfl
  have o3 : (3 : Int32).toInt = 3 := rfl
  have e1 : (z + 1).toInt = ((n + 1 : Nat) : Int) := by rw [i32_add (by omega) (by omega)]; omega
  have e2 : (z + 2).toInt = ((n + 2 : Nat) : Int) := by rw [i32_add (by omega) (by omega)]; omega
  have e3 : (z + 3).toInt = ((n + 3 : Nat) : Int) := by rw [i32_add (by omega) (by omega)]; omega
  have f2 : (z + 1 + 1).toInt = ((n + 2 : Nat) : Int) := by rw [i32_add (by omega) (by omega)]; omega
  have f3 : (z + 1 + 1 + 1).toInt = ((n + 3 : Nat) : Int) := by rw [i32_add (by omega) (by omega)]; omega
  unfold pu4 fo4 fo1
  rw [cl_n hz, cl_n e1, cl_n e2, cl_n e3, cl_n f2, cl_n f3]
  refine BBp.step (n := n + 3) (BBp.step (n := n + 2) (BBp.step (n := n + 1) (BBp.step h (by_0 x) (by omega) (by omega)) (by_1 x) (by rw [put_len]; omega) (by rw [put_len]; omega)) (by_2 x) (by rw [put_len, put_len]; omega) (by rw [put_len, put_len]; omega)) (by_3 x) (by rw [put_len, put_len, put_len]; omega) (by rw [put_len, put_len, put_len]; omega)
theorem ev_put4 {e : Nat} {M : Mem} {z x : Int32} {lb : List Int32} (hT : TM sT sG M) (hz : LC z M) (hB : BC lb M) (z0 : 0 ≤ z.toInt) (z1 : z.toInt ≤ 436) : ∃ M', Ev none e 49 0 [some (.ref 1), some (.int x)] [] M none M' 0 0 ∧ TM sT sG M' ∧ Frm sT [(5, 1), (1002, 0)] M M' ∧ LC (z + 4) M' ∧ BC (pu4 lb z x) M' := by
  obtain ⟨vs, h1, h2⟩ := hz
  obtain ⟨vs', b, q1, q2, sb⟩ := hT.fref tp_1 tp_b.2.1
  cases h1.symm.trans q1
  obtain ⟨l, r1, r2, _⟩ := hT.irow sb tp_b.2.2.2
  have hb2 := sU_ok b 2 2 sb tp_u2.1
  subst hb2
  have hsl : l = lb := by cases hB.symm.trans r1; rfl
  subst hsl
  obtain ⟨n, hn⟩ : ∃ n : Nat, z.toInt = (n : Int) := ⟨z.toInt.toNat, by omega⟩
  have o1 : (1 : Int32).toInt = 1 := rfl
  have o2 : (2 : Int32).toInt = 2 := rfl
  have o3 : (3 : Int32).toInt = 3 := rfl
  have o4 : (4 : Int32).toInt = 4 := rfl
  have e1 : (z + 1).toInt = ((n + 1 : Nat) : Int) := by rw [i32_add (by omega) (by omega)]; omega
  have e2 : (z + 2).toInt = ((n + 2 : Nat) : Int) := by rw [i32_add (by omega) (by omega)]; omega
  have e3 : (z + 3).toInt = ((n + 3 : Nat) : Int) := by rw [i32_add (by omega) (by omega)]; omega
  have e4 : (z + 4).toInt = z.toInt + 4 := by rw [i32_add (by omega) (by omega)]; omega
  obtain ⟨y0, a0, _⟩ := at_c (l := l) hn (by omega)
  obtain ⟨t1, f1, g1, i1, n1⟩ := tp_st hT h1 r1 r2 sb z.toNatClampNeg (ush_b x)
  obtain ⟨y1, a1, _⟩ := at_c (l := gPut l z.toNatClampNeg ((x.toUInt32 >>> ((24 : Int32).toUInt32 &&& Int32.toUInt32 31)).toInt32)) e1 (by omega)
  obtain ⟨t2, f2, g2, i2, n2⟩ := tp_st t1 g1 i1 n1 sb (z + 1).toNatClampNeg (a255_b ((x.toUInt32 >>> ((16 : Int32).toUInt32 &&& Int32.toUInt32 31)).toInt32))
  obtain ⟨y2, a2, _⟩ := at_c (l := gPut (gPut l z.toNatClampNeg ((x.toUInt32 >>> ((24 : Int32).toUInt32 &&& Int32.toUInt32 31)).toInt32)) (z + 1).toNatClampNeg ((x.toUInt32 >>> ((16 : Int32).toUInt32 &&& Int32.toUInt32 31)).toInt32 &&& 255)) e2 (by omega)
  obtain ⟨t3, f3, g3, i3, n3⟩ := tp_st t2 g2 i2 n2 sb (z + 2).toNatClampNeg (a255_b ((x.toUInt32 >>> ((8 : Int32).toUInt32 &&& Int32.toUInt32 31)).toInt32))
  obtain ⟨y3, a3, _⟩ := at_c (l := gPut (gPut (gPut l z.toNatClampNeg ((x.toUInt32 >>> ((24 : Int32).toUInt32 &&& Int32.toUInt32 31)).toInt32)) (z + 1).toNatClampNeg ((x.toUInt32 >>> ((16 : Int32).toUInt32 &&& Int32.toUInt32 31)).toInt32 &&& 255)) (z + 2).toNatClampNeg ((x.toUInt32 >>> ((8 : Int32).toUInt32 &&& Int32.toUInt32 31)).toInt32 &&& 255)) e3 (by omega)
  obtain ⟨t4, f4, g4, i4, n4⟩ := tp_st t3 g3 i3 n3 sb (z + 3).toNatClampNeg (a255_b x)
  obtain ⟨u1, u2, u3, u4⟩ := LC.set (z := z) (w := z + 4) t4 g4 (by omega) (by omega)
  have f5 : Frm sT [(5, 1), (1002, 0)] _ _ := u2.more (md' := [(5, 1), (1002, 0)]) (fun q hq => by cases List.mem_singleton.mp hq; exact List.mem_cons_self)
  have hle : z ≤ 436 := Int32.le_iff_toInt_le.mpr z1
  exact ⟨_, pt_0 h1 h2 (by rw [if_pos hle]; exact pt_11 h1 q2 h2 r1 a0 (pt_24 g1 q2 h2 i1 a1 (pt_43 g2 q2 h2 i2 a2 (pt_62 g3 q2 h2 i3 a3 (pt_78 g4 h2 u4))))), u1, (((f1.trans f2).trans f3).trans f4).trans f5, u3, (show gNth _ 2 = _ by rw [nth_put, if_neg (fun q => absurd q.1 (by decide))]; exact i4)⟩
noncomputable def fdC (lb : List Int32) (z x1 x2 x3 x4 x5 : Int32) : List Int32 := if z + 20 ≤ 440 then (pu4 (pu4 (pu4 (pu4 (pu4 lb z x1) (z + 4) x2) (z + 4 + 4) x3) (z + 4 + 4 + 4) x4) (z + 4 + 4 + 4 + 4) x5) else lb
theorem ev_feedC4 {e : Nat} {M : Mem} {z x1 x2 x3 x4 x5 : Int32} {lb : List Int32} (hV : INV M) (hz : LC z M) (hB : BC lb M) : ∃ M', Ev none (e + 1) 80 0 [some (.ref 0), some (.int x1), some (.int x2), some (.int x3), some (.int x4), some (.int x5)] [] M (some (.int (feedA z))) M' 0 0 ∧ INV M' ∧ Frm sT [(5, 1), (1002, 0)] M M' ∧ LC (feedZ z) M' ∧ BC (fdC lb z x1 x2 x3 x4 x5) M' := by
  obtain ⟨vp, p1, p2⟩ := INV.tape hV.1
  obtain ⟨z0, z1⟩ := hz.rng hV.1
  have o20 : (20 : Int32).toInt = 20 := rfl
  have o44 : (440 : Int32).toInt = 440 := rfl
  have e20 : (z + 20).toInt = z.toInt + 20 := by rw [i32_add (by omega) (by omega)]; omega
  unfold feedA feedZ fdC
  by_cases hy : z + 20 ≤ 440
  rotate_left
  · rw [if_neg hy, if_neg hy, if_neg hy]
    obtain ⟨vs, h1, h2⟩ := id hz
    exact ⟨M, ff_0 p1 p2 h1 h2 (by rw [if_neg hy]; exact ff_16), hV, Frm.refl _, hz, hB⟩
  rw [if_pos hy, if_pos hy, if_pos hy]
  have hz2 : z.toInt ≤ 420 := by have := Int32.le_iff_toInt_le.mp hy; omega
  have o4 : (4 : Int32).toInt = 4 := rfl
  have e1 : (z + 4).toInt = z.toInt + 4 := by rw [i32_add (by omega) (by omega)]; omega
  have e2 : (z + 4 + 4).toInt = z.toInt + 8 := by rw [i32_add (by omega) (by omega)]; omega
  have e3 : (z + 4 + 4 + 4).toInt = z.toInt + 12 := by rw [i32_add (by omega) (by omega)]; omega
  have e4 : (z + 4 + 4 + 4 + 4).toInt = z.toInt + 16 := by rw [i32_add (by omega) (by omega)]; omega
  obtain ⟨M1, a1, T1, F1, L1, B1⟩ := ev_put4 (e := e) (x := x1) hV.1 hz hB z0 (by omega)
  obtain ⟨M2, a2, T2, F2, L2, B2⟩ := ev_put4 (e := e) (x := x2) T1 L1 B1 (by omega) (by omega)
  obtain ⟨M3, a3, T3, F3, L3, B3⟩ := ev_put4 (e := e) (x := x3) T2 L2 B2 (by omega) (by omega)
  obtain ⟨M4, a4, T4, F4, L4, B4⟩ := ev_put4 (e := e) (x := x4) T3 L3 B3 (by omega) (by omega)
  obtain ⟨M5, a5, T5, F5, L5, B5⟩ := ev_put4 (e := e) (x := x5) T4 L4 B4 (by omega) (by omega)
  have F9 := (((F1.trans F2).trans F3).trans F4).trans F5
  rw [feed_5 z0 hz2] at L5
  obtain ⟨v0, c0, d0⟩ := id hz
  obtain ⟨v1, c1, d1⟩ := L1
  obtain ⟨v2, c2, d2⟩ := L2
  obtain ⟨v3, c3, d3⟩ := L3
  obtain ⟨v4, c4, d4⟩ := L4
  obtain ⟨v5, c5, d5⟩ := id L5
  obtain ⟨w1, i1, j1⟩ := INV.tape T1
  obtain ⟨w2, i2, j2⟩ := INV.tape T2
  obtain ⟨w3, i3, j3⟩ := INV.tape T3
  obtain ⟨w4, i4, j4⟩ := INV.tape T4
  obtain ⟨w5, i5, j5⟩ := INV.tape T5
  refine ⟨M5, ff_0 p1 p2 c0 d0 ?_, hV.mv T5 F9 (by decide) (by decide) (by decide) (by decide), F9, L5, B5⟩
  rw [if_pos hy]
  refine ff_18 p1 p2 (Ev.call0 (fun n => gs_7 rfl rfl (cal_pu c0 rfl)) a1 ?_)
  refine ff_26 i1 j1 (Ev.call0 (fun n => gs_7 rfl rfl (cal_pu c1 rfl)) a2 ?_)
  refine ff_34 i2 j2 (Ev.call0 (fun n => gs_7 rfl rfl (cal_pu c2 rfl)) a3 ?_)
  refine ff_42 i3 j3 (Ev.call0 (fun n => gs_7 rfl rfl (cal_pu c3 rfl)) a4 ?_)
  refine ff_51 i4 j4 (Ev.call0 (fun n => gs_7 rfl rfl (cal_pu c4 rfl)) a5 ?_)
  exact ff_60 i5 j5 c5 d5
theorem fo_it4 {e : Nat} {M : Mem} {z x k : Int32} {lt : List Int32} (hT : TM sT sG M) (hz : LR z M) (hB : BR lt M) (z0 : 0 ≤ z.toInt) (z1 : z.toInt ≤ 439) (hk : ¬ k < 0) : ∃ M1, (∀ v M', Ev none e 137 3 [some (.ref 633), some (.int x), some (.int (k + Int32.ofInt (-8)))] [] M1 v M' 0 0 → Ev none e 137 3 [some (.ref 633), some (.int x), some (.int k)] [] M v M' 0 0) ∧ TM sT sG M1 ∧ Frm sT [(11, 2), (1062, 0)] M M1 ∧ LR (z + 1) M1 ∧ BR (fo1 lt z x k) M1 := by
  obtain ⟨vs, h1, h2⟩ := hz
  obtain ⟨vs', b, q1, q2, sb⟩ := hT.fref tp_633 tp_m.2.1
  cases h1.symm.trans q1
  obtain ⟨l, r1, r2, r3⟩ := hT.mrow sb tp_m.2.2
  have hb2 := sU_ok b 62 634 sb tp_u.2.1
  subst hb2
  have hsl : l = lt := by cases hB.symm.trans r1; rfl
  subst hsl
  obtain ⟨n, hn⟩ : ∃ n : Nat, z.toInt = (n : Int) := ⟨z.toInt.toNat, by omega⟩
  obtain ⟨y0, a0, _⟩ := at_c (l := l) hn (by omega)
  have o1 : (1 : Int32).toInt = 1 := rfl
  have e1 : (z + 1).toInt = z.toInt + 1 := by rw [i32_add (by omega) (by omega)]; omega
  have hb : (634 : Nat) ≠ 633 := by decide
  have t1 : TM sT sG (gPut M 634 (.inl (0, .inl (gPut l z.toNatClampNeg (vp_nar .byte ((x >>> (k &&& 31)).toInt8.toInt32)))))) := hT.putrow (n := 440) (lo := -128) (hi := 127) sb (by decide +kernel) (by rw [put_len]; exact r2) (fun j w hj => by
    rw [nth_put] at hj
    split at hj
    · cases hj; exact nar_b _
    · exact r3 j w hj)
  have f1 : Frm sT [(11, 2), (1062, 0)] M _ := Frm.row (y := .inl (gPut l z.toNatClampNeg (vp_nar .byte ((x >>> (k &&& 31)).toInt8.toInt32)))) r1 sb (by decide)
  have g1 : gNth (gPut M 634 (.inl (0, .inl (gPut l z.toNatClampNeg (vp_nar .byte ((x >>> (k &&& 31)).toInt8.toInt32)))))) 633 = some (.inr (11, vs)) := by
    rw [nth_put, if_neg (fun q => hb q.1.symm)]
    exact h1
  obtain ⟨u1, u2, u3, u4⟩ := LR.set (w := z + 1) t1 g1 (by omega) (by omega)
  exact ⟨_, fun v M' h => fo_3 (by rw [if_neg hk]; exact fo_7 h1 q2 h2 r1 a0 (fo_20 g1 h2 u4 h)), u1, f1.trans (u2.more (fun q hq => by cases List.mem_singleton.mp hq; exact List.mem_cons_self)), u3, (show gNth _ 634 = _ by rw [nth_put, if_neg (fun q => absurd q.1 (by decide)), nth_put, if_pos ⟨rfl, gNth_lt _ _ _ r1⟩]; rfl)⟩
theorem ev_four4 {e : Nat} {M : Mem} {z x : Int32} {w2 : Option Value} {lt : List Int32} (hT : TM sT sG M) (hz : LR z M) (hB : BR lt M) (z0 : 0 ≤ z.toInt) (z1 : z.toInt ≤ 436) : ∃ M', Ev none e 137 0 [some (.ref 633), some (.int x), w2] [] M none M' 0 0 ∧ TM sT sG M' ∧ Frm sT [(11, 2), (1062, 0)] M M' ∧ LR (z + 1 + 1 + 1 + 1) M' ∧ BR (fo4 lt z x) M' := by
  have o1 : (1 : Int32).toInt = 1 := rfl
  have e1 : (z + 1).toInt = z.toInt + 1 := by rw [i32_add (by omega) (by omega)]; omega
  have e2 : (z + 1 + 1).toInt = z.toInt + 2 := by rw [i32_add (by omega) (by omega)]; omega
  have e3 : (z + 1 + 1 + 1).toInt = z.toInt + 3 := by rw [i32_add (by omega) (by omega)]; omega
  obtain ⟨M1, a1, T1, F1, L1, B1⟩ := fo_it4 (e := e) (x := x) (k := 24) hT hz hB z0 (by omega) (by decide)
  obtain ⟨M2, a2, T2, F2, L2, B2⟩ := fo_it4 (e := e) (x := x) (k := 24 + Int32.ofInt (-8)) T1 L1 B1 (by omega) (by omega) (by decide)
  obtain ⟨M3, a3, T3, F3, L3, B3⟩ := fo_it4 (e := e) (x := x) (k := 24 + Int32.ofInt (-8) + Int32.ofInt (-8)) T2 L2 B2 (by omega) (by omega) (by decide)
  obtain ⟨M4, a4, T4, F4, L4, B4⟩ := fo_it4 (e := e) (x := x) (k := 24 + Int32.ofInt (-8) + Int32.ofInt (-8) + Int32.ofInt (-8)) T3 L3 B3 (by omega) (by omega) (by decide)
  exact ⟨M4, fo_0 (a1 _ _ (a2 _ _ (a3 _ _ (a4 _ _ (fo_3 (by rw [if_pos (by decide)]; exact fo_36)))))), T4, ((F1.trans F2).trans F3).trans F4, L4, B4⟩
noncomputable def fdR (lt : List Int32) (z x1 x2 x3 x4 x5 : Int32) : List Int32 := if z + 20 ≤ 440 then (fo4 (fo4 (fo4 (fo4 (fo4 lt z x1) (z + 4) x2) (z + 4 + 4) x3) (z + 4 + 4 + 4) x4) (z + 4 + 4 + 4 + 4) x5) else lt
theorem ev_feedR4 {e : Nat} {M : Mem} {z x1 x2 x3 x4 x5 : Int32} {lt : List Int32} (hV : INV M) (hz : LR z M) (hB : BR lt M) : ∃ M', Ev none (e + 1) 136 0 [some (.ref 633), some (.int x1), some (.int x2), some (.int x3), some (.int x4), some (.int x5)] [] M (some (.int (feedA z))) M' 0 0 ∧ INV M' ∧ Frm sT [(11, 0), (11, 2), (1062, 0)] M M' ∧ LR (feedZ z) M' ∧ BR (fdR lt z x1 x2 x3 x4 x5) M' := by
  obtain ⟨z0, z1⟩ := hz.rng hV.1
  obtain ⟨vs, h1, h0, T0, F0, c0, d0⟩ := hz.thr hV.1
  have F0' : Frm sT [(11, 0), (11, 2), (1062, 0)] M _ := F0.more (fun q hq => by cases List.mem_singleton.mp hq; exact List.mem_cons_self)
  have hB0 := hB.frm F0 (by decide)
  have o20 : (20 : Int32).toInt = 20 := rfl
  have o44 : (440 : Int32).toInt = 440 := rfl
  have e20 : (z + 20).toInt = z.toInt + 20 := by rw [i32_add (by omega) (by omega)]; omega
  unfold feedA feedZ fdR
  by_cases hy : z + 20 ≤ 440
  rotate_left
  · rw [if_neg hy, if_neg hy, if_neg hy]
    exact ⟨_, fm_0 h1 h0 (fm_5 c0 d0 (by rw [if_neg hy]; exact fm_18)), hV.mv T0 F0 (by decide) (by decide) (by decide) (by decide), F0', ⟨_, c0, d0⟩, hB0⟩
  rw [if_pos hy, if_pos hy, if_pos hy]
  have hz2 : z.toInt ≤ 420 := by have := Int32.le_iff_toInt_le.mp hy; omega
  have o4 : (4 : Int32).toInt = 4 := rfl
  have e1 : (z + 4).toInt = z.toInt + 4 := by rw [i32_add (by omega) (by omega)]; omega
  have e2 : (z + 4 + 4).toInt = z.toInt + 8 := by rw [i32_add (by omega) (by omega)]; omega
  have e3 : (z + 4 + 4 + 4).toInt = z.toInt + 12 := by rw [i32_add (by omega) (by omega)]; omega
  have e4 : (z + 4 + 4 + 4 + 4).toInt = z.toInt + 16 := by rw [i32_add (by omega) (by omega)]; omega
  obtain ⟨M1, a1, T1, F1, L1, B1⟩ := ev_four4 (e := e) (x := x1) (w2 := none) T0 ⟨_, c0, d0⟩ hB0 z0 (by omega)
  rw [four_4 z0 (by omega)] at L1
  obtain ⟨M2, a2, T2, F2, L2, B2⟩ := ev_four4 (e := e) (x := x2) (w2 := none) T1 L1 B1 (by omega) (by omega)
  rw [four_4 (by omega) (by omega)] at L2
  obtain ⟨M3, a3, T3, F3, L3, B3⟩ := ev_four4 (e := e) (x := x3) (w2 := none) T2 L2 B2 (by omega) (by omega)
  rw [four_4 (by omega) (by omega)] at L3
  obtain ⟨M4, a4, T4, F4, L4, B4⟩ := ev_four4 (e := e) (x := x4) (w2 := none) T3 L3 B3 (by omega) (by omega)
  rw [four_4 (by omega) (by omega)] at L4
  obtain ⟨M5, a5, T5, F5, L5, B5⟩ := ev_four4 (e := e) (x := x5) (w2 := none) T4 L4 B4 (by omega) (by omega)
  rw [four_4 (by omega) (by omega), feed_5 z0 hz2] at L5
  have F9 : Frm sT [(11, 0), (11, 2), (1062, 0)] M M5 := F0'.trans (((((F1.trans F2).trans F3).trans F4).trans F5).more (fun q hq => List.mem_cons_of_mem _ hq))
  obtain ⟨v1, c1, d1⟩ := L1
  obtain ⟨v2, c2, d2⟩ := L2
  obtain ⟨v3, c3, d3⟩ := L3
  obtain ⟨v4, c4, d4⟩ := L4
  obtain ⟨v5, c5, d5⟩ := id L5
  refine ⟨M5, fm_0 h1 h0 (fm_5 c0 d0 ?_), hV.mv T5 F9 (by decide) (by decide) (by decide) (by decide), F9, L5, B5⟩
  rw [if_pos hy]
  refine fm_20 (Ev.call0 (fun n => gs_7 rfl rfl (cal_fo c0 rfl)) a1 ?_)
  refine fm_25 (Ev.call0 (fun n => gs_7 rfl rfl (cal_fo c1 rfl)) a2 ?_)
  refine fm_30 (Ev.call0 (fun n => gs_7 rfl rfl (cal_fo c2 rfl)) a3 ?_)
  refine fm_35 (Ev.call0 (fun n => gs_7 rfl rfl (cal_fo c3 rfl)) a4 ?_)
  refine fm_41 (Ev.call0 (fun n => gs_7 rfl rfl (cal_fo c4 rfl)) a5 ?_)
  exact fm_47 c5 d5
theorem fd_ok {n : Nat} {lb lt : List Int32} {z x1 x2 x3 x4 x5 : Int32} (h : BBp n lb lt) (hz : z.toInt = (n : Int)) (l1 : lb.length = 440) (l2 : lt.length = 440) (hn : n ≤ 440) : BBp (feedZ z).toInt.toNat (fdC lb z x1 x2 x3 x4 x5) (fdR lt z x1 x2 x3 x4 x5) := by
  have o20 : (20 : Int32).toInt = 20 := rfl
  have o44 : (440 : Int32).toInt = 440 := rfl
  have o4 : (4 : Int32).toInt = 4 := rfl
  have e20 : (z + 20).toInt = z.toInt + 20 := by rw [i32_add (by omega) (by omega)]; omega
  unfold feedZ fdC fdR
  by_cases hy : z + 20 ≤ 440
  rotate_left
  · rw [if_neg hy, if_neg hy, if_neg hy]
    exact h.less (by omega)
  rw [if_pos hy, if_pos hy, if_pos hy]
  have hz2 : z.toInt ≤ 420 := by have := Int32.le_iff_toInt_le.mp hy; omega
  have e1 : (z + 4).toInt = ((n + 4 : Nat) : Int) := by rw [i32_add (by omega) (by omega)]; omega
  have e2 : (z + 4 + 4).toInt = ((n + 4 + 4 : Nat) : Int) := by rw [i32_add (by omega) (by omega)]; omega
  have e3 : (z + 4 + 4 + 4).toInt = ((n + 4 + 4 + 4 : Nat) : Int) := by rw [i32_add (by omega) (by omega)]; omega
  have e4 : (z + 4 + 4 + 4 + 4).toInt = ((n + 4 + 4 + 4 + 4 : Nat) : Int) := by rw [i32_add (by omega) (by omega)]; omega
  have h1 := h.four (x := x1) hz (by omega) (by omega) (by omega)
  have h2 := h1.four (x := x2) e1 (by rw [pu4_len]; omega) (by rw [fo4_len]; omega) (by omega)
  have h3 := h2.four (x := x3) e2 (by rw [pu4_len, pu4_len]; omega) (by rw [fo4_len, fo4_len]; omega) (by omega)
  have h4 := h3.four (x := x4) e3 (by rw [pu4_len, pu4_len, pu4_len]; omega) (by rw [fo4_len, fo4_len, fo4_len]; omega) (by omega)
  have h5 := h4.four (x := x5) e4 (by rw [pu4_len, pu4_len, pu4_len, pu4_len]; omega) (by rw [fo4_len, fo4_len, fo4_len, fo4_len]; omega) (by omega)
  exact h5.less (by omega)
/-! RUNS TAKEN APART: what a run that returns has done -/
section BACK
variable {sc : Sta} {d me pc pc' : Nat} {ls ls' ls0 : Lo} {st st' rest : List Value} {M M1 M' : Mem} {v : Option Value} {c s : Nat}
theorem Ev.back (k : Nat) (e : ∀ n, go sc (n + k) d me pc ls st M = go sc n d me pc' ls' st' M1) (h : Ev sc d me pc ls st M v M' c s) : Ev sc d me pc' ls' st' M1 v M' c s := by
  obtain ⟨n, h⟩ := h
  exact ⟨n, (e n).symm.trans (go_mono h k)⟩
theorem Ev.retb {w : Option Value} (e : ∀ n, go sc (n + 1) d me pc ls st M = some (w, M, 0, 0)) (h : Ev sc d me pc ls st M v M' c s) : v = w ∧ M' = M := by
  obtain ⟨n, h⟩ := h
  have h2 := (e n).symm.trans (go_mono h 1)
  cases h2
  exact ⟨rfl, rfl⟩
theorem Ev.callb {id : Nat} (e : ∀ n, go sc (n + 1) (d + 1) me pc ls st M = gThen (go sc n d id 0 ls0 [] M) (fun v M' c s => gAdd c s (go sc n (d + 1) me (pc + 3) ls (v.toList ++ rest) M'))) (h : Ev sc (d + 1) me pc ls st M v M' 0 0) : ∃ v1 M1, Ev sc d id 0 ls0 [] M v1 M1 0 0 ∧ Ev sc (d + 1) me (pc + 3) ls (v1.toList ++ rest) M1 v M' 0 0 := by
  obtain ⟨n, h⟩ := h
  have h2 := (e n).symm.trans (go_mono h 1)
  obtain ⟨v1, M1, c1, s1, g1, g2⟩ := then_inv h2
  obtain ⟨c3, s3, g3, e1, e2⟩ := add_inv g2
  have a1 : c1 = 0 := by omega
  have a2 : s1 = 0 := by omega
  have a3 : c3 = 0 := by omega
  have a4 : s3 = 0 := by omega
  subst a1 a2 a3 a4
  exact ⟨v1, M1, ⟨n, g1⟩, ⟨n, g3⟩⟩
end BACK
section BACK2
variable {d me pc o np kf mx : Nat} {y : MethodName} {cc : ByteArray} {ret : Option FieldType} {tab : List (Nat × Nat × Instr)} {ls : Lo} {st : List Value} {M M' : Mem} {i : Instr} {v : Option Value} {c s : Nat}
theorem Ev.dpos (hrow : gNth mRs me = some (o, y, cc, mx, ret, np, kf, tab)) (hl : gLook tab pc = some (7, i)) (h : Ev none d me pc ls st M v M' c s) : ∃ e, d = e + 1 := by
  cases d with
  | succ e => exact ⟨e, rfl⟩
  | zero =>
    obtain ⟨n, h⟩ := h
    cases n with
    | zero => cases h
    | succ n =>
      rw [go_succ] at h
      unfold gStep at h
      rw [hrow] at h
      dsimp only at h
      rw [hl] at h
      have h : (none : Rs) = some (v, M', c, s) := h
      cases h
theorem Ev.get (hrow : gNth mRs me = some (o, y, cc, mx, ret, np, kf, tab)) (hl : gLook tab pc = some (3, i)) (h : Ev none d me pc ls st M v M' c s) : ∃ st1 M1, gGet i none o (Nat.beq kf 2) st M = some (st1, M1) ∧ Ev none d me (pc + gLen i) ls st1 M1 v M' c s := by
  obtain ⟨n, h⟩ := h
  cases n with
  | zero => cases h
  | succ n =>
    rw [go_succ] at h
    unfold gStep at h
    rw [hrow] at h
    dsimp only at h
    rw [hl] at h
    have h : (match gGet i none o (Nat.beq kf 2) st M with
      | some (st', M1) => go none n d me (pc + gLen i) ls st' M1
      | none => none) = some (v, M', c, s) := h
    split at h
    · rename_i st1 M1 e
      exact ⟨st1, M1, e, n, h⟩
    · cases h
theorem Ev.put (hrow : gNth mRs me = some (o, y, cc, mx, ret, np, kf, tab)) (hl : gLook tab pc = some (4, i)) (h : Ev none d me pc ls st M v M' c s) : ∃ st1 M1, gGet i none o (Nat.beq kf 2) st M = some (st1, M1) ∧ Ev none d me (pc + gLen i) ls st1 M1 v M' c s := by
  obtain ⟨n, h⟩ := h
  cases n with
  | zero => cases h
  | succ n =>
    rw [go_succ] at h
    unfold gStep at h
    rw [hrow] at h
    dsimp only at h
    rw [hl] at h
    have h : (match gGet i none o (Nat.beq kf 2) st M with
      | some (st', M1) => go none n d me (pc + gLen i) ls st' M1
      | none => none) = some (v, M', c, s) := h
    split at h
    · rename_i st1 M1 e
      exact ⟨st1, M1, e, n, h⟩
    · cases h
theorem Ev.alu (hrow : gNth mRs me = some (o, y, cc, mx, ret, np, kf, tab)) (hl : gLook tab pc = some (0, i)) (h : Ev none d me pc ls st M v M' c s) : ∃ st1, gAlu i st = some st1 ∧ Ev none d me (pc + gLen i) ls st1 M v M' c s := by
  obtain ⟨n, h⟩ := h
  cases n with
  | zero => cases h
  | succ n =>
    rw [go_succ] at h
    unfold gStep at h
    rw [hrow] at h
    dsimp only at h
    rw [hl] at h
    have h : (match gAlu i st with
      | some st' => go none n d me (pc + gLen i) ls st' M
      | none => none) = some (v, M', c, s) := h
    split at h
    · rename_i st1 e
      exact ⟨st1, e, n, h⟩
    · cases h
theorem Ev.retz {x : Int32} (hrow : gNth mRs me = some (o, y, cc, mx, ret, np, kf, tab)) (hl : gLook tab pc = some (6, .ireturn)) (h : Ev none d me pc ls [.int x] M v M' c s) : v = some (.int x) ∧ M' = M := by
  obtain ⟨n, h⟩ := h
  cases n with
  | zero => cases h
  | succ n =>
    rw [go_succ] at h
    unfold gStep at h
    rw [hrow] at h
    dsimp only at h
    rw [hl] at h
    have h : (match gRet ret .ireturn [.int x] with
      | some w => some (w, M, 0, 0)
      | none => none) = some (v, M', c, s) := h
    split at h
    rotate_left
    · cases h
    rename_i w e
    cases h
    refine ⟨?_, rfl⟩
    cases ret with
    | none => cases e
    | some t =>
      cases t
      case int =>
        have e : some (some (Value.int x)) = some v := e
        cases e
        rfl
      case boolean =>
        obtain ⟨-, e⟩ := cond_inv (show cond (fits .boolean (.int x)) (some (some (Value.int x))) none = some v from e)
        cases e
        rfl
      all_goals cases e
end BACK2
/-! THE SHAPE of the memory: what each cell is, whatever the numbers -/
def shF (t : FT) (v : Value) : Prop := match t with
  | .inl _ => ∃ x : Int32, v = .int x
  | .inr 0 => ∃ x : Int64, v = .long x
  | .inr (k + 1) => (∃ a, v = .ref a ∧ gNth sT a = some (k / 2)) ∨ (k % 2 = 1 ∧ v = .null)
def shC (t : CT) (e : AE) : Prop := match t with
  | .inl (ci, fs) => ∃ vs, e = .inr (ci, vs) ∧ vs.length = fs.length ∧ ∀ k ft, gNth fs k = some ft → ∃ v, gNth vs k = some v ∧ shF ft v
  | .inr (2, n, _) => ∃ l : List Int64, e = .inl (2, .inr (.inl l)) ∧ l.length = n
  | .inr (kd, n, .inl _) => ∃ l : List Int32, e = .inl (kd, .inl l) ∧ l.length = n
  | .inr (kd, n, .inr g) => ∃ l : List (Option Nat), e = .inl (kd, .inr (.inr l)) ∧ l.length = n ∧ ∀ j x, gNth l j = some x → ∃ a, x = some a ∧ gNth sT a = some g
def SH (M : Mem) : Prop := sT.length ≤ M.length ∧ ∀ a g t, gNth sT a = some g → gNth sG g = some t → ∃ e, gNth M a = some e ∧ shC t e
theorem shF_of {t : FT} {v : Value} (h : ftOK sT t v) : shF t v := by
  rcases t with ⟨lo, hi⟩ | k
  · obtain ⟨x, h, _⟩ := h
    exact ⟨x, h⟩
  · match k, h with
    | 0, h => exact h
    | k + 1, h => exact h
theorem shC_of {t : CT} {e : AE} (h : ctOK sT t e) : shC t e := by
  rcases t with ⟨ci, fs⟩ | ⟨kd, n, q⟩
  · obtain ⟨vs, h1, h2, h3⟩ := h
    refine ⟨vs, h1, h2, fun k ft hk => ?_⟩
    obtain ⟨v, v1, v2⟩ := h3 k ft hk
    exact ⟨v, v1, shF_of v2⟩
  · by_cases hk : kd = 2
    · subst hk
      exact h
    · rcases q with sg | g
      · have h' : ∃ l : List Int32, e = .inl (kd, .inl l) ∧ l.length = n ∧ ∀ j x, gNth l j = some x → ∃ p : Iv, sgAt sg j = some p ∧ p.1 ≤ x.toInt ∧ x.toInt ≤ p.2 := by
          match kd, hk, h with
          | 0, _, h => exact h
          | 1, _, h => exact h
          | n + 3, _, h => exact h
        obtain ⟨l, h1, h2, _⟩ := h'
        match kd, hk, h1 with
        | 0, _, h1 => exact ⟨l, h1, h2⟩
        | 1, _, h1 => exact ⟨l, h1, h2⟩
        | n + 3, _, h1 => exact ⟨l, h1, h2⟩
      · match kd, hk, h with
        | 0, _, h => exact h
        | 1, _, h => exact h
        | n + 3, _, h => exact h
theorem TM.sh {M : Mem} (h : TM sT sG M) : SH M := ⟨h.1, fun a g t h1 h2 => by
  obtain ⟨e, e1, e2⟩ := h.2 a g t h1 h2
  exact ⟨e, e1, shC_of e2⟩⟩
/-! WHAT A CELL HOLDS -/
noncomputable def fV (M : Mem) (a k : Nat) : Option Value := match gNth M a with
  | some (.inr (_, vs)) => gNth vs k
  | _ => none
noncomputable def zI (M : Mem) (a k : Nat) : Int32 := match fV M a k with
  | some (.int x) => x
  | _ => 0
noncomputable def fL (M : Mem) (a k : Nat) : Int64 := match fV M a k with
  | some (.long x) => x
  | _ => 0
noncomputable def fR (M : Mem) (a k : Nat) : Nat := match fV M a k with
  | some (.ref x) => x
  | _ => 0
noncomputable def zrw (M : Mem) (a : Nat) : List Int32 := match gNth M a with
  | some (.inl (_, .inl l)) => l
  | _ => []
noncomputable def roL (M : Mem) (a : Nat) : List (Option Nat) := match gNth M a with
  | some (.inl (_, .inr (.inr l))) => l
  | _ => []
noncomputable def rN (M : Mem) (a j : Nat) : Int32 := (gNth (zrw M a) j).getD 0
noncomputable def rI (M : Mem) (a : Nat) (j : Int32) : Int32 := rN M a j.toNatClampNeg
noncomputable def oN (M : Mem) (a j : Nat) : Nat := ((gNth (roL M a) j).getD none).getD 0
noncomputable def oI (M : Mem) (a : Nat) (j : Int32) : Nat := oN M a j.toNatClampNeg
noncomputable def wI (M : Mem) (a j : Nat) (x : Int32) : Mem := match gNth M a with
  | some (.inl (kd, .inl l)) => gPut M a (.inl (kd, .inl (gPut l j x)))
  | _ => M
noncomputable def wF (M : Mem) (a k : Nat) (x : Int32) : Mem := match gNth M a with
  | some (.inr (c, vs)) => (match gNth vs k with
    | some (.int _) => gPut M a (.inr (c, gPut vs k (.int x)))
    | _ => M)
  | _ => M
noncomputable def wG (M : Mem) (a k : Nat) (x : Int64) : Mem := match gNth M a with
  | some (.inr (c, vs)) => (match gNth vs k with
    | some (.long _) => gPut M a (.inr (c, gPut vs k (.long x)))
    | _ => M)
  | _ => M
noncomputable def wR (M : Mem) (a k b : Nat) : Mem := match gNth M a with
  | some (.inr (c, vs)) => gPut M a (.inr (c, gPut vs k (.ref b)))
  | _ => M
/-- the references that stay as the constructors made them -/
noncomputable def fxT : List Nat := [110, 119, 138, 147, 156, 165, 174, 183]
noncomputable def fxA : List Nat := [8, 243, 345, 441, 537]
def FX (M : Mem) : Prop := (∀ t ∈ fxT, ∀ k, k < 8 → fV M t k = some (.ref (t + 1 + k))) ∧ ∀ a ∈ fxA, (∀ k, k < 8 → fV M a (2 + k) = some (.ref (a + 1 + k))) ∧ fV M a 10 = some (.ref (a + 9)) ∧ fV M a 12 = some (.ref (a + 10)) ∧ fV M a 14 = some (.ref (a + 11))
def SQ (M : Mem) : Prop := SH M ∧ FX M
section ACC
variable {M : Mem} {a b g k ci : Nat}
noncomputable def iB (g ci k : Nat) : Bool := match gNth sG g with
  | some (.inl (c, fs)) => Nat.beq c ci && (match gNth fs k with
    | some (.inl _) => true
    | _ => false)
  | _ => false
noncomputable def lB (g ci k : Nat) : Bool := match gNth sG g with
  | some (.inl (c, fs)) => Nat.beq c ci && (match gNth fs k with
    | some (.inr 0) => true
    | _ => false)
  | _ => false
noncomputable def nB (g ci k g2 : Nat) : Bool := match gNth sG g with
  | some (.inl (c, fs)) => Nat.beq c ci && (match gNth fs k with
    | some (.inr n) => Nat.beq n (2 * g2 + 2)
    | _ => false)
  | _ => false
noncomputable def oB (g ci : Nat) : Bool := match gNth sG g with
  | some (.inl (c, _)) => Nat.beq c ci
  | _ => false
noncomputable def wB (g kd n : Nat) : Bool := match gNth sG g with
  | some (.inr (q, m, .inl _)) => !Nat.beq q 2 && (Nat.beq q kd && Nat.beq m n)
  | _ => false
theorem SH.obj (hS : SH M) (ha : gNth sT a = some g) (hB : oB g ci = true) : ∃ vs, gNth M a = some (.inr (ci, vs)) := by
  unfold oB at hB
  split at hB
  rotate_left
  · cases hB
  rename_i c fs e
  cases Nat.eq_of_beq_eq_true hB
  obtain ⟨_, e1, vs, rfl, _⟩ := hS.2 a g _ ha e
  exact ⟨vs, e1⟩
theorem SH.fi (hS : SH M) (ha : gNth sT a = some g) (hB : iB g ci k = true) : ∃ vs, gNth M a = some (.inr (ci, vs)) ∧ gNth vs k = some (.int (zI M a k)) := by
  unfold iB at hB
  split at hB
  rotate_left
  · cases hB
  rename_i c fs e
  obtain ⟨b1, b2⟩ := and_t hB
  cases Nat.eq_of_beq_eq_true b1
  obtain ⟨_, e1, vs, rfl, _, e3⟩ := hS.2 a g _ ha e
  split at b2
  rotate_left
  · cases b2
  rename_i p e2
  obtain ⟨w, w1, x, rfl⟩ := e3 k _ e2
  refine ⟨vs, e1, ?_⟩
  unfold zI fV
  rw [e1]
  dsimp only
  rw [w1]
theorem SH.fl (hS : SH M) (ha : gNth sT a = some g) (hB : lB g ci k = true) : ∃ vs, gNth M a = some (.inr (ci, vs)) ∧ gNth vs k = some (.long (fL M a k)) := by
  unfold lB at hB
  split at hB
  rotate_left
  · cases hB
  rename_i c fs e
  obtain ⟨b1, b2⟩ := and_t hB
  cases Nat.eq_of_beq_eq_true b1
  obtain ⟨_, e1, vs, rfl, _, e3⟩ := hS.2 a g _ ha e
  split at b2
  rotate_left
  · cases b2
  rename_i e2
  obtain ⟨w, w1, x, rfl⟩ := e3 k _ e2
  refine ⟨vs, e1, ?_⟩
  unfold fL fV
  rw [e1]
  dsimp only
  rw [w1]
theorem SH.fr {g2 : Nat} (hS : SH M) (ha : gNth sT a = some g) (hB : fdB g ci k g2 = true) : (∃ vs, gNth M a = some (.inr (ci, vs)) ∧ gNth vs k = some (.ref (fR M a k))) ∧ gNth sT (fR M a k) = some g2 := by
  unfold fdB at hB
  split at hB
  rotate_left
  · cases hB
  rename_i c fs e
  obtain ⟨b1, b2⟩ := and_t hB
  cases Nat.eq_of_beq_eq_true b1
  obtain ⟨_, e1, vs, rfl, _, e3⟩ := hS.2 a g _ ha e
  split at b2
  rotate_left
  · cases b2
  rename_i n e2
  cases Nat.eq_of_beq_eq_true b2
  obtain ⟨w, w1, w2⟩ := e3 k _ e2
  rcases w2 with ⟨x, rfl, hx⟩ | ⟨hk, _⟩
  · have hx : gNth sT x = some (2 * g2 / 2) := hx
    rw [Nat.mul_div_cancel_left _ (by decide : 0 < 2)] at hx
    have hf : fR M a k = x := by
      unfold fR fV
      rw [e1]
      dsimp only
      rw [w1]
    rw [hf]
    exact ⟨⟨vs, e1, w1⟩, hx⟩
  · have hk : 2 * g2 % 2 = 1 := hk
    omega
/-- a field that may be null, and is not -/
theorem SH.fn {g2 : Nat} (hS : SH M) (ha : gNth sT a = some g) (hB : nB g ci k g2 = true) (hg : g2 ≠ 0) (hx : gNth sT (fR M a k) = some g2) : ∃ vs, gNth M a = some (.inr (ci, vs)) ∧ gNth vs k = some (.ref (fR M a k)) := by
  unfold nB at hB
  split at hB
  rotate_left
  · cases hB
  rename_i c fs e
  obtain ⟨b1, b2⟩ := and_t hB
  cases Nat.eq_of_beq_eq_true b1
  obtain ⟨_, e1, vs, rfl, _, e3⟩ := hS.2 a g _ ha e
  split at b2
  rotate_left
  · cases b2
  rename_i n e2
  cases Nat.eq_of_beq_eq_true b2
  obtain ⟨w, w1, w2⟩ := e3 k _ e2
  have hf : ∀ y, gNth vs k = some y → fV M a k = some y := fun y hy => by
    unfold fV
    rw [e1]
    exact hy
  rcases w2 with ⟨x, rfl, _⟩ | ⟨_, rfl⟩
  · refine ⟨vs, e1, ?_⟩
    unfold fR
    rw [hf _ w1]
    exact w1
  · unfold fR at hx
    rw [hf _ w1] at hx
    have h0 : gNth sT 0 = some 0 := sT_00
    dsimp only at hx
    rw [h0] at hx
    cases hx
    exact absurd rfl hg
theorem SH.row {kd n : Nat} (hS : SH M) (ha : gNth sT a = some g) (hB : wB g kd n = true) : gNth M a = some (.inl (kd, .inl (zrw M a))) ∧ (zrw M a).length = n := by
  unfold wB at hB
  split at hB
  rotate_left
  · cases hB
  rename_i q m sg e
  obtain ⟨b0, hB⟩ := and_t hB
  obtain ⟨b1, b2⟩ := and_t hB
  cases Nat.eq_of_beq_eq_true b1
  cases Nat.eq_of_beq_eq_true b2
  have hq : kd ≠ 2 := by
    rintro rfl
    cases b0
  obtain ⟨ee, e1, e2⟩ := hS.2 a g _ ha e
  have h' : ∃ l : List Int32, ee = .inl (kd, .inl l) ∧ l.length = n := by
    match kd, hq, e2 with
    | 0, _, h => exact h
    | 1, _, h => exact h
    | _ + 3, _, h => exact h
  obtain ⟨l, rfl, l1⟩ := h'
  have hr : zrw M a = l := by
    unfold zrw
    rw [e1]
  rw [hr]
  exact ⟨e1, l1⟩
theorem SH.ror {kd n g2 : Nat} (hS : SH M) (ha : gNth sT a = some g) (hB : rrB g kd n g2 = true) : gNth M a = some (.inl (kd, .inr (.inr (roL M a)))) ∧ (roL M a).length = n ∧ ∀ j, j < n → gNth (roL M a) j = some (some (oN M a j)) ∧ gNth sT (oN M a j) = some g2 := by
  unfold rrB at hB
  split at hB
  rotate_left
  · cases hB
  rename_i q m h e
  obtain ⟨b0, hB⟩ := and_t hB
  obtain ⟨b1, hB⟩ := and_t hB
  obtain ⟨b2, b3⟩ := and_t hB
  cases Nat.eq_of_beq_eq_true b1
  cases Nat.eq_of_beq_eq_true b2
  cases Nat.eq_of_beq_eq_true b3
  have hq : kd ≠ 2 := by
    rintro rfl
    cases b0
  obtain ⟨ee, e1, e2⟩ := hS.2 a g _ ha e
  have h' : ∃ l : List (Option Nat), ee = .inl (kd, .inr (.inr l)) ∧ l.length = n ∧ ∀ j x, gNth l j = some x → ∃ a, x = some a ∧ gNth sT a = some g2 := by
    match kd, hq, e2 with
    | 0, _, h => exact h
    | 1, _, h => exact h
    | _ + 3, _, h => exact h
  obtain ⟨l, rfl, l1, l2⟩ := h'
  have hr : roL M a = l := by
    unfold roL
    rw [e1]
  refine ⟨by rw [hr]; exact e1, by rw [hr]; exact l1, fun j hj => ?_⟩
  have hx : ∃ x, gNth l j = some x := by
    rw [nth_eq]
    exact ⟨_, List.getElem?_eq_getElem (by omega)⟩
  obtain ⟨x, hx⟩ := hx
  obtain ⟨b, rfl, hb⟩ := l2 j x hx
  have ho : oN M a j = b := by
    unfold oN
    rw [hr, hx]
    rfl
  rw [hr, ho]
  exact ⟨hx, hb⟩
end ACC
/-! READING AND WRITING, in a run that returns -/
section RUN
variable {d me pc o np kf mx ix ty a b g g2 ci k n kd : Nat} {y : MethodName} {cc : ByteArray} {ret : Option FieldType} {tab : List (Nat × Nat × Instr)} {ls : Lo} {st : List Value} {M M' : Mem} {i : Instr} {v : Option Value} {c s : Nat} {ini : Bool} {j x z : Int32}
theorem gf_i (hS : SH M) (ha : gNth sT a = some g) (hB : iB g ci k = true) (ho : gOwn fRs o ix = some (ci, k, ty)) : gGet (.getfield ix) none o ini (.ref a :: st) M = some (.int (zI M a k) :: st, M) := by
  obtain ⟨vs, h1, h2⟩ := hS.fi ha hB
  exact gf_c ho h1 h2
theorem gf_l (hS : SH M) (ha : gNth sT a = some g) (hB : lB g ci k = true) (ho : gOwn fRs o ix = some (ci, k, ty)) : gGet (.getfield ix) none o ini (.ref a :: st) M = some (.long (fL M a k) :: st, M) := by
  obtain ⟨vs, h1, h2⟩ := hS.fl ha hB
  exact gf_c ho h1 h2
theorem gf_r (hS : SH M) (ha : gNth sT a = some g) (hB : fdB g ci k g2 = true) (ho : gOwn fRs o ix = some (ci, k, ty)) : gGet (.getfield ix) none o ini (.ref a :: st) M = some (.ref (fR M a k) :: st, M) := by
  obtain ⟨⟨vs, h1, h2⟩, _⟩ := hS.fr ha hB
  exact gf_c ho h1 h2
theorem gf_n (hS : SH M) (ha : gNth sT a = some g) (hB : nB g ci k g2 = true) (hg : g2 ≠ 0) (hx : gNth sT (fR M a k) = some g2) (ho : gOwn fRs o ix = some (ci, k, ty)) : gGet (.getfield ix) none o ini (.ref a :: st) M = some (.ref (fR M a k) :: st, M) := by
  obtain ⟨vs, h1, h2⟩ := hS.fn ha hB hg hx
  exact gf_c ho h1 h2
theorem gf_u (hS : SH M) (ha : gNth sT a = some g) (hB : fdB g ci k g2 = true) (hU : gNth sU g2 = some (some b)) (ho : gOwn fRs o ix = some (ci, k, ty)) : gGet (.getfield ix) none o ini (.ref a :: st) M = some (.ref b :: st, M) := by
  obtain ⟨⟨vs, h1, h2⟩, h3⟩ := hS.fr ha hB
  have h4 := sU_ok _ g2 b h3 hU
  rw [h4] at h2
  exact gf_c ho h1 h2
theorem gf_x (hS : SH M) (ha : gNth sT a = some g) (hB : oB g ci = true) (hx : fV M a k = some (.ref b)) (ho : gOwn fRs o ix = some (ci, k, ty)) : gGet (.getfield ix) none o ini (.ref a :: st) M = some (.ref b :: st, M) := by
  obtain ⟨vs, h1⟩ := hS.obj ha hB
  refine gf_c ho h1 ?_
  unfold fV at hx
  rw [h1] at hx
  exact hx
theorem gat_in {l : List Int32} {y : Int32} (h : gAt l j = some y) : 0 ≤ j.toInt ∧ j.toInt < (l.length : Int) ∧ gNth l j.toNatClampNeg = some y := by
  unfold gAt at h
  by_cases hj : j < 0
  · rw [decide_eq_true hj] at h
    cases h
  · rw [decide_eq_false hj] at h
    have h : gNth l j.toNatClampNeg = some y := h
    have h1 := gNth_lt _ _ _ h
    rw [Int32.lt_iff_toInt_lt] at hj
    have o : (0 : Int32).toInt = 0 := rfl
    have e : j.toNatClampNeg = j.toInt.toNat := rfl
    exact ⟨by omega, by omega, h⟩
theorem gat_ino {l : List (Option Nat)} {y : Option Nat} (h : gAt l j = some y) : 0 ≤ j.toInt ∧ j.toInt < (l.length : Int) ∧ gNth l j.toNatClampNeg = some y := by
  unfold gAt at h
  by_cases hj : j < 0
  · rw [decide_eq_true hj] at h
    cases h
  · rw [decide_eq_false hj] at h
    have h : gNth l j.toNatClampNeg = some y := h
    have h1 := gNth_lt _ _ _ h
    rw [Int32.lt_iff_toInt_lt] at hj
    have o : (0 : Int32).toInt = 0 := rfl
    have e : j.toNatClampNeg = j.toInt.toNat := rfl
    exact ⟨by omega, by omega, h⟩
theorem Ev.ial (hrow : gNth mRs me = some (o, y, cc, mx, ret, np, kf, tab)) (hl : gLook tab pc = some (3, .iaload)) (hS : SH M) (ha : gNth sT a = some g) (hB : wB g 1 n = true) (h : Ev none d me pc ls (.int j :: .ref a :: st) M v M' c s) : (0 ≤ j.toInt ∧ j.toInt < (n : Int)) ∧ Ev none d me (pc + 1) ls (.int (rI M a j) :: st) M v M' c s := by
  obtain ⟨st1, M1, e, h⟩ := Ev.get hrow hl h
  obtain ⟨h1, h2⟩ := hS.row ha hB
  have e : (match gNth M a with
    | some (.inl (1, .inl l)) => match gAt l j with
      | some x => some (Value.int x :: st, M)
      | none => none
    | _ => none) = some (st1, M1) := e
  rw [h1] at e
  have e : (match gAt (zrw M a) j with
      | some x => some (Value.int x :: st, M)
      | none => none) = some (st1, M1) := e
  cases hg : gAt (zrw M a) j with
  | none => rw [hg] at e; cases e
  | some x =>
    rw [hg] at e
    cases e
    obtain ⟨q1, q2, q3⟩ := gat_in hg
    rw [h2] at q2
    refine ⟨⟨q1, q2⟩, ?_⟩
    have hx : rI M a j = x := by
      unfold rI rN
      rw [q3]
      rfl
    rw [hx]
    exact h
theorem Ev.bal (hrow : gNth mRs me = some (o, y, cc, mx, ret, np, kf, tab)) (hl : gLook tab pc = some (3, .baload)) (hS : SH M) (ha : gNth sT a = some g) (hB : wB g kd n = true) (hk : kd = 0 ∨ kd = 3) (h : Ev none d me pc ls (.int j :: .ref a :: st) M v M' c s) : (0 ≤ j.toInt ∧ j.toInt < (n : Int)) ∧ Ev none d me (pc + 1) ls (.int (rI M a j) :: st) M v M' c s := by
  obtain ⟨st1, M1, e, h⟩ := Ev.get hrow hl h
  obtain ⟨h1, h2⟩ := hS.row ha hB
  have e : (match gNth M a with
    | some (.inl (0, .inl l)) => match gAt l j with
      | some x => some (Value.int x :: st, M)
      | none => none
    | some (.inl (3, .inl l)) => match gAt l j with
      | some x => some (Value.int x :: st, M)
      | none => none
    | _ => none) = some (st1, M1) := e
  rw [h1] at e
  have e : (match gAt (zrw M a) j with
      | some x => some (Value.int x :: st, M)
      | none => none) = some (st1, M1) := by
    rcases hk with rfl | rfl
    · exact e
    · exact e
  cases hg : gAt (zrw M a) j with
  | none => rw [hg] at e; cases e
  | some x =>
    rw [hg] at e
    cases e
    obtain ⟨q1, q2, q3⟩ := gat_in hg
    rw [h2] at q2
    refine ⟨⟨q1, q2⟩, ?_⟩
    have hx : rI M a j = x := by
      unfold rI rN
      rw [q3]
      rfl
    rw [hx]
    exact h
theorem Ev.aal (hrow : gNth mRs me = some (o, y, cc, mx, ret, np, kf, tab)) (hl : gLook tab pc = some (3, .aaload)) (hS : SH M) (ha : gNth sT a = some g) (hB : rrB g kd n g2 = true) (h : Ev none d me pc ls (.int j :: .ref a :: st) M v M' c s) : ((0 ≤ j.toInt ∧ j.toInt < (n : Int)) ∧ gNth sT (oI M a j) = some g2) ∧ Ev none d me (pc + 1) ls (.ref (oI M a j) :: st) M v M' c s := by
  obtain ⟨st1, M1, e, h⟩ := Ev.get hrow hl h
  obtain ⟨h1, h2, h3⟩ := hS.ror ha hB
  have e : (match gNth M a with
    | some (.inl (t, .inr (.inr l))) => match gAt l j with
      | some x => cond (Nat.ble 4 t && Nat.ble t 8) (some (va_rf x :: st, M)) none
      | none => none
    | _ => none) = some (st1, M1) := e
  rw [h1] at e
  have e : (match gAt (roL M a) j with
      | some x => cond (Nat.ble 4 kd && Nat.ble kd 8) (some (va_rf x :: st, M)) none
      | none => none) = some (st1, M1) := e
  cases hg : gAt (roL M a) j with
  | none => rw [hg] at e; cases e
  | some x =>
    rw [hg] at e
    obtain ⟨-, e⟩ := cond_inv e
    cases e
    obtain ⟨q1, q2, q3⟩ := gat_ino hg
    rw [h2] at q2
    have e1 : j.toNatClampNeg = j.toInt.toNat := rfl
    obtain ⟨p1, p2⟩ := h3 j.toNatClampNeg (by omega)
    cases q3.symm.trans p1
    exact ⟨⟨⟨q1, q2⟩, p2⟩, h⟩
theorem wI_eq {l : List Int32} (h : gNth M a = some (.inl (kd, .inl l))) : wI M a n x = gPut M a (.inl (kd, .inl (gPut l n x))) := by
  unfold wI
  rw [h]
theorem Ev.ias (hrow : gNth mRs me = some (o, y, cc, mx, ret, np, kf, tab)) (hl : gLook tab pc = some (4, .iastore)) (hS : SH M) (ha : gNth sT a = some g) (hB : wB g 1 n = true) (h : Ev none d me pc ls (.int x :: .int j :: .ref a :: st) M v M' c s) : (0 ≤ j.toInt ∧ j.toInt < (n : Int)) ∧ Ev none d me (pc + 1) ls st (wI M a j.toNatClampNeg x) v M' c s := by
  obtain ⟨st1, M1, e, h⟩ := Ev.put hrow hl h
  obtain ⟨h1, h2⟩ := hS.row ha hB
  have e : (match gNth M a with
    | some (.inl (1, .inl l)) => match gAt l j with
      | some _ => some (st, gPut M a (.inl (1, .inl (gPut l j.toNatClampNeg x))))
      | none => none
    | _ => none) = some (st1, M1) := e
  rw [h1] at e
  have e : (match gAt (zrw M a) j with
      | some _ => some (st, gPut M a (.inl (1, .inl (gPut (zrw M a) j.toNatClampNeg x))))
      | none => none) = some (st1, M1) := e
  cases hg : gAt (zrw M a) j with
  | none => rw [hg] at e; cases e
  | some x2 =>
    rw [hg] at e
    cases e
    obtain ⟨q1, q2, q3⟩ := gat_in hg
    rw [h2] at q2
    rw [wI_eq h1]
    exact ⟨⟨q1, q2⟩, h⟩
theorem Ev.bas0 (hrow : gNth mRs me = some (o, y, cc, mx, ret, np, kf, tab)) (hl : gLook tab pc = some (4, .bastore)) (hS : SH M) (ha : gNth sT a = some g) (hB : wB g 0 n = true) (h : Ev none d me pc ls (.int x :: .int j :: .ref a :: st) M v M' c s) : (0 ≤ j.toInt ∧ j.toInt < (n : Int)) ∧ Ev none d me (pc + 1) ls st (wI M a j.toNatClampNeg (vp_nar .byte x)) v M' c s := by
  obtain ⟨st1, M1, e, h⟩ := Ev.put hrow hl h
  obtain ⟨h1, h2⟩ := hS.row ha hB
  have e : (match gNth M a with
    | some (.inl (0, .inl l)) => match gAt l j with
      | some _ => some (st, gPut M a (.inl (0, .inl (gPut l j.toNatClampNeg (vp_nar .byte x)))))
      | none => none
    | some (.inl (3, .inl l)) => match gAt l j with
      | some _ => some (st, gPut M a (.inl (3, .inl (gPut l j.toNatClampNeg (vp_nar .boolean x)))))
      | none => none
    | _ => none) = some (st1, M1) := e
  rw [h1] at e
  have e : (match gAt (zrw M a) j with
      | some _ => some (st, gPut M a (.inl (0, .inl (gPut (zrw M a) j.toNatClampNeg (vp_nar .byte x)))))
      | none => none) = some (st1, M1) := e
  cases hg : gAt (zrw M a) j with
  | none => rw [hg] at e; cases e
  | some x2 =>
    rw [hg] at e
    cases e
    obtain ⟨q1, q2, q3⟩ := gat_in hg
    rw [h2] at q2
    rw [wI_eq h1]
    exact ⟨⟨q1, q2⟩, h⟩
theorem Ev.bas3 (hrow : gNth mRs me = some (o, y, cc, mx, ret, np, kf, tab)) (hl : gLook tab pc = some (4, .bastore)) (hS : SH M) (ha : gNth sT a = some g) (hB : wB g 3 n = true) (h : Ev none d me pc ls (.int x :: .int j :: .ref a :: st) M v M' c s) : (0 ≤ j.toInt ∧ j.toInt < (n : Int)) ∧ Ev none d me (pc + 1) ls st (wI M a j.toNatClampNeg (vp_nar .boolean x)) v M' c s := by
  obtain ⟨st1, M1, e, h⟩ := Ev.put hrow hl h
  obtain ⟨h1, h2⟩ := hS.row ha hB
  have e : (match gNth M a with
    | some (.inl (0, .inl l)) => match gAt l j with
      | some _ => some (st, gPut M a (.inl (0, .inl (gPut l j.toNatClampNeg (vp_nar .byte x)))))
      | none => none
    | some (.inl (3, .inl l)) => match gAt l j with
      | some _ => some (st, gPut M a (.inl (3, .inl (gPut l j.toNatClampNeg (vp_nar .boolean x)))))
      | none => none
    | _ => none) = some (st1, M1) := e
  rw [h1] at e
  have e : (match gAt (zrw M a) j with
      | some _ => some (st, gPut M a (.inl (3, .inl (gPut (zrw M a) j.toNatClampNeg (vp_nar .boolean x)))))
      | none => none) = some (st1, M1) := e
  cases hg : gAt (zrw M a) j with
  | none => rw [hg] at e; cases e
  | some x2 =>
    rw [hg] at e
    cases e
    obtain ⟨q1, q2, q3⟩ := gat_in hg
    rw [h2] at q2
    rw [wI_eq h1]
    exact ⟨⟨q1, q2⟩, h⟩
theorem Ev.pfi (hrow : gNth mRs me = some (o, y, cc, mx, ret, np, kf, tab)) (hl : gLook tab pc = some (4, .putfield ix)) (ho : gOwn fRs o ix = some (ci, k, ty)) (hS : SH M) (ha : gNth sT a = some g) (hB : iB g ci k = true) (h : Ev none d me pc ls (.int x :: .ref a :: st) M v M' c s) : Ev none d me (pc + 3) ls st (wF M a k x) v M' c s := by
  obtain ⟨st1, M1, e, h⟩ := Ev.put hrow hl h
  obtain ⟨vs, h1, h2⟩ := hS.fi ha hB
  have e : (match gOwn fRs o ix, gNth M a with
    | some (ci, k, _), some (.inr (c, fs)) => match Nat.beq c ci && Nat.blt k fs.length && (!gFin ci k || (Nat.beq kf 2 && Nat.beq o ci)) && fits (gTy ci k) (.int x) with
      | true => some (st, gPut M a (.inr (c, gPut fs k (.int x))))
      | _ => none
    | _, _ => none) = some (st1, M1) := e
  rw [ho, h1] at e
  have e : (match Nat.beq ci ci && Nat.blt k vs.length && (!gFin ci k || (Nat.beq kf 2 && Nat.beq o ci)) && fits (gTy ci k) (.int x) with
      | true => some (st, gPut M a (.inr (ci, gPut vs k (.int x))))
      | _ => none) = some (st1, M1) := e
  split at e
  · cases e
    have hw : wF M a k x = gPut M a (.inr (ci, gPut vs k (.int x))) := by
      unfold wF
      rw [h1]
      dsimp only
      rw [h2]
    rw [hw]
    exact h
  · cases e
theorem Ev.pfl {x : Int64} (hrow : gNth mRs me = some (o, y, cc, mx, ret, np, kf, tab)) (hl : gLook tab pc = some (4, .putfield ix)) (ho : gOwn fRs o ix = some (ci, k, ty)) (hS : SH M) (ha : gNth sT a = some g) (hB : lB g ci k = true) (h : Ev none d me pc ls (.long x :: .ref a :: st) M v M' c s) : Ev none d me (pc + 3) ls st (wG M a k x) v M' c s := by
  obtain ⟨st1, M1, e, h⟩ := Ev.put hrow hl h
  obtain ⟨vs, h1, h2⟩ := hS.fl ha hB
  have e : (match gOwn fRs o ix, gNth M a with
    | some (ci, k, _), some (.inr (c, fs)) => match Nat.beq c ci && Nat.blt k fs.length && (!gFin ci k || (Nat.beq kf 2 && Nat.beq o ci)) && fits (gTy ci k) (.long x) with
      | true => some (st, gPut M a (.inr (c, gPut fs k (.long x))))
      | _ => none
    | _, _ => none) = some (st1, M1) := e
  rw [ho, h1] at e
  have e : (match Nat.beq ci ci && Nat.blt k vs.length && (!gFin ci k || (Nat.beq kf 2 && Nat.beq o ci)) && fits (gTy ci k) (.long x) with
      | true => some (st, gPut M a (.inr (ci, gPut vs k (.long x))))
      | _ => none) = some (st1, M1) := e
  split at e
  · cases e
    have hw : wG M a k x = gPut M a (.inr (ci, gPut vs k (.long x))) := by
      unfold wG
      rw [h1]
      dsimp only
      rw [h2]
    rw [hw]
    exact h
  · cases e
theorem Ev.pfr (hrow : gNth mRs me = some (o, y, cc, mx, ret, np, kf, tab)) (hl : gLook tab pc = some (4, .putfield ix)) (ho : gOwn fRs o ix = some (ci, k, ty)) (hS : SH M) (ha : gNth sT a = some g) (hB : oB g ci = true) (h : Ev none d me pc ls (.ref b :: .ref a :: st) M v M' c s) : Ev none d me (pc + 3) ls st (wR M a k b) v M' c s := by
  obtain ⟨st1, M1, e, h⟩ := Ev.put hrow hl h
  obtain ⟨vs, h1⟩ := hS.obj ha hB
  have e : (match gOwn fRs o ix, gNth M a with
    | some (ci, k, _), some (.inr (c, fs)) => match Nat.beq c ci && Nat.blt k fs.length && (!gFin ci k || (Nat.beq kf 2 && Nat.beq o ci)) && fits (gTy ci k) (.ref b) with
      | true => some (st, gPut M a (.inr (c, gPut fs k (.ref b))))
      | _ => none
    | _, _ => none) = some (st1, M1) := e
  rw [ho, h1] at e
  have e : (match Nat.beq ci ci && Nat.blt k vs.length && (!gFin ci k || (Nat.beq kf 2 && Nat.beq o ci)) && fits (gTy ci k) (.ref b) with
      | true => some (st, gPut M a (.inr (ci, gPut vs k (.ref b))))
      | _ => none) = some (st1, M1) := e
  split at e
  · cases e
    have hw : wR M a k b = gPut M a (.inr (ci, gPut vs k (.ref b))) := by
      unfold wR
      rw [h1]
    rw [hw]
    exact h
  · cases e
/-- the class's own rows -/
noncomputable def sI (k : Nat) (j : Int32) : Int32 := match gSx none k with
  | some l => (gAt l j).getD 0
  | none => 0
theorem Ev.sal (hrow : gNth mRs me = some (o, y, cc, mx, ret, np, kf, tab)) (hl : gLook tab pc = some (3, .iaload)) (h : Ev none d me pc ls (.int j :: .retAddr k :: st) M v M' c s) : Ev none d me (pc + 1) ls (.int (sI k j) :: st) M v M' c s := by
  obtain ⟨st1, M1, e, h⟩ := Ev.get hrow hl h
  have e : (match gSx none k with
    | some l => match gAt l j with
      | some x => some (Value.int x :: st, M)
      | none => none
    | none => none) = some (st1, M1) := e
  unfold sI
  cases hk : gSx none k with
  | none => rw [hk] at e; cases e
  | some l =>
    rw [hk] at e
    have e : (match gAt l j with
      | some x => some (Value.int x :: st, M)
      | none => none) = some (st1, M1) := e
    cases hg : gAt l j with
    | none => rw [hg] at e; cases e
    | some x =>
      rw [hg] at e
      cases e
      dsimp only
      rw [hg]
      exact h
theorem Ev.cal (hrow : gNth mRs me = some (o, y, cc, mx, ret, np, kf, tab)) (hl : gLook tab pc = some (7, i)) (hn : ∀ q, gCal i o st M ≠ some (.inr q)) (h : Ev none d me pc ls st M v M' c s) : ∃ st1 M1, gCal i o st M = some (.inl (st1, M1)) ∧ Ev none d me (pc + 3) ls st1 M1 v M' c s := by
  obtain ⟨n, h⟩ := h
  cases n with
  | zero => cases h
  | succ n =>
    rw [go_succ] at h
    unfold gStep at h
    rw [hrow] at h
    dsimp only at h
    rw [hl] at h
    cases d with
    | zero =>
      have h : (none : Rs) = some (v, M', c, s) := h
      cases h
    | succ d =>
      have h : (match gCal i o st M with
        | none => none
        | some (.inl (st', M')) => go none n (d + 1) me (pc + 3) ls st' M'
        | some (.inr (id, ls0, rest)) => gThen (go none n d id 0 ls0 [] M) (fun v M' c s => gAdd c s (go none n (d + 1) me (pc + 3) ls (v.toList ++ rest) M'))) = some (v, M', c, s) := h
      split at h
      · cases h
      · rename_i st1 M1 e
        exact ⟨st1, M1, e, n, h⟩
      · rename_i e
        exact absurd e (hn _)
/-- a text's letter -/
noncomputable def cI (k : Nat) (j : Int32) : Int32 := (gAt (gTx k) j).getD 0
theorem dv_i (h : Ev none d me pc ls (.int z :: .int x :: st) M v M' c s) (hrow : gNth mRs me = some (o, y, cc, mx, ret, np, kf, tab)) (hl : gLook tab pc = some (0, .idiv)) : ¬ z = 0 ∧ Ev none d me (pc + 1) ls (.int (x / z) :: st) M v M' c s := by
  obtain ⟨st1, e, h⟩ := Ev.alu hrow hl h
  have e : (if z = 0 then none else some (Value.int (x / z) :: st)) = some st1 := e
  split at e
  · cases e
  · rename_i hz
    cases e
    exact ⟨hz, h⟩
theorem rm_i (h : Ev none d me pc ls (.int z :: .int x :: st) M v M' c s) (hrow : gNth mRs me = some (o, y, cc, mx, ret, np, kf, tab)) (hl : gLook tab pc = some (0, .irem)) : ¬ z = 0 ∧ Ev none d me (pc + 1) ls (.int (x - x / z * z) :: st) M v M' c s := by
  obtain ⟨st1, e, h⟩ := Ev.alu hrow hl h
  have e : (if z = 0 then none else some (Value.int (x - x / z * z) :: st)) = some st1 := e
  split at e
  · cases e
  · rename_i hz
    cases e
    exact ⟨hz, h⟩
theorem Ev.len (hrow : gNth mRs me = some (o, y, cc, mx, ret, np, kf, tab)) (hl : gLook tab pc = some (7, .invokevirtual ix)) (hq : ∀ st M, gCal (.invokevirtual ix) o st M = (match gNat 1006 st M with | some q => cond (Nat.beq 1 1 && gRoom q.1) (some (.inl q)) none | none => none)) (h : Ev none d me pc ls (.retAddr a :: st) M v M' c s) : Ev none d me (pc + 3) ls (.int (Int32.ofNat (gTx (a - 10)).length) :: st) M v M' c s := by
  obtain ⟨st1, M1, e, h⟩ := Ev.cal hrow hl (fun q e => by
    rw [hq] at e
    split at e
    · obtain ⟨_, e⟩ := cond_inv e
      cases e
    · cases e) h
  rw [hq] at e
  have e : (match (cond (Nat.ble 10 a && Nat.blt a 17) (some (Value.int (Int32.ofNat (gLn (gTx (a - 10)))) :: st, M)) none) with | some q => cond (Nat.beq 1 1 && gRoom q.1) (some (Sum.inl (β := Nat × Lo × List Value) q)) none | none => none) = some (.inl (st1, M1)) := e
  cases hb : (Nat.ble 10 a && Nat.blt a 17) with
  | false => rw [hb] at e; cases e
  | true =>
    rw [hb] at e
    obtain ⟨_, e⟩ := cond_inv e
    cases e
    rw [← gln_len]
    exact h
theorem Ev.cha (hrow : gNth mRs me = some (o, y, cc, mx, ret, np, kf, tab)) (hl : gLook tab pc = some (7, .invokevirtual ix)) (hq : ∀ st M, gCal (.invokevirtual ix) o st M = (match gNat 1007 st M with | some q => cond (Nat.beq 1 1 && gRoom q.1) (some (.inl q)) none | none => none)) (h : Ev none d me pc ls (.int j :: .retAddr a :: st) M v M' c s) : Ev none d me (pc + 3) ls (.int (cI (a - 10) j) :: st) M v M' c s := by
  obtain ⟨st1, M1, e, h⟩ := Ev.cal hrow hl (fun q e => by
    rw [hq] at e
    split at e
    · obtain ⟨_, e⟩ := cond_inv e
      cases e
    · cases e) h
  rw [hq] at e
  have e : (match (cond (Nat.ble 10 a && Nat.blt a 17) (match gAt (gTx (a - 10)) j with
      | some x => some (Value.int x :: st, M)
      | none => none) none) with | some q => cond (Nat.beq 1 1 && gRoom q.1) (some (Sum.inl (β := Nat × Lo × List Value) q)) none | none => none) = some (.inl (st1, M1)) := e
  cases hb : (Nat.ble 10 a && Nat.blt a 17) with
  | false => rw [hb] at e; cases e
  | true =>
    rw [hb] at e
    cases hg : gAt (gTx (a - 10)) j with
    | none => rw [hg] at e; cases e
    | some x =>
      rw [hg] at e
      obtain ⟨_, e⟩ := cond_inv e
      cases e
      unfold cI
      rw [hg]
      exact h
theorem recv_s (hS : SH M) (ha : gNth sT a = some g) (hB : oB g ci = true) : gRecv M (.ref a) ci = true := by
  obtain ⟨vs, h1⟩ := hS.obj ha hB
  exact recv_c h1
end RUN
/-! WHAT A WRITE CHANGES -/
section UPD
variable {M : Mem} {a b g g2 k i j ci n kd : Nat} {x : Int32} {z : Int64}
theorem fV_put {e : AE} (h : ∀ c vs, e ≠ .inr (c, vs)) (h2 : ∀ c vs, gNth M a ≠ some (.inr (c, vs))) : fV (gPut M a e) b k = fV M b k := by
  unfold fV
  rw [nth_put]
  by_cases hb : b = a ∧ a < M.length
  · rw [if_pos hb, hb.1]
    rcases e with q | ⟨c, vs⟩
    · dsimp only
      cases hM : gNth M a with
      | none => rfl
      | some e2 =>
        rcases e2 with q2 | ⟨c, vs⟩
        · rfl
        · exact absurd hM (h2 c vs)
    · exact absurd rfl (h c vs)
  · rw [if_neg hb]
theorem fV_wI : fV (wI M a j x) b k = fV M b k := by
  unfold wI
  split
  · rename_i kd l hM
    exact fV_put (fun c vs q => by cases q) (fun c vs q => by rw [hM] at q; cases q)
  · rfl
theorem fI_wI : zI (wI M a j x) b k = zI M b k := by unfold zI; rw [fV_wI]
theorem fR_wI : fR (wI M a j x) b k = fR M b k := by unfold fR; rw [fV_wI]
theorem fL_wI : fL (wI M a j x) b k = fL M b k := by unfold fL; rw [fV_wI]
theorem fV_obj {c : Nat} {vs : List Value} {v : Value} (hM : gNth M a = some (.inr (c, vs))) : fV (gPut M a (.inr (c, gPut vs k v))) b i = if b = a ∧ i = k ∧ k < vs.length then some v else fV M b i := by
  unfold fV
  rw [nth_put]
  have hl := gNth_lt _ _ _ hM
  by_cases hb : b = a
  · subst hb
    rw [if_pos ⟨rfl, hl⟩, hM]
    dsimp only
    rw [nth_put]
    by_cases hi : i = k ∧ k < vs.length
    · rw [if_pos hi, if_pos ⟨rfl, hi⟩]
    · rw [if_neg hi, if_neg (fun q => hi q.2)]
  · rw [if_neg (fun q => hb q.1), if_neg (fun q => hb q.1)]
theorem fV_wF_ne (h : ¬ (b = a ∧ i = k)) : fV (wF M a k x) b i = fV M b i := by
  unfold wF
  split
  · rename_i c vs hM
    split
    · rw [fV_obj hM, if_neg (fun q => h ⟨q.1, q.2.1⟩)]
    · rfl
  · rfl
theorem fI_wF_ne (h : ¬ (b = a ∧ i = k)) : zI (wF M a k x) b i = zI M b i := by unfold zI; rw [fV_wF_ne h]
theorem fL_wF : fL (wF M a k x) b i = fL M b i := by
  by_cases h : b = a ∧ i = k
  · obtain ⟨rfl, rfl⟩ := h
    unfold wF
    split
    · rename_i c vs hM
      split
      · rename_i y hy
        unfold fL
        have h1 : fV M b i = some (.int y) := by
          unfold fV
          rw [hM]
          exact hy
        rw [fV_obj hM, if_pos ⟨rfl, rfl, gNth_lt _ _ _ hy⟩, h1]
      · rfl
    · rfl
  · unfold fL
    rw [fV_wF_ne h]
theorem fR_wF : fR (wF M a k x) b i = fR M b i := by
  by_cases h : b = a ∧ i = k
  · obtain ⟨rfl, rfl⟩ := h
    unfold wF
    split
    · rename_i c vs hM
      split
      · rename_i y hy
        unfold fR
        have h1 : fV M b i = some (.int y) := by
          unfold fV
          rw [hM]
          exact hy
        rw [fV_obj hM, if_pos ⟨rfl, rfl, gNth_lt _ _ _ hy⟩, h1]
      · rfl
    · rfl
  · unfold fR
    rw [fV_wF_ne h]
theorem fV_wF_ref {r : Nat} (h : fV M b i = some (.ref r)) : fV (wF M a k x) b i = some (.ref r) := by
  by_cases hb : b = a ∧ i = k
  · obtain ⟨rfl, rfl⟩ := hb
    unfold wF
    split
    · rename_i c vs hM
      split
      · rename_i y hy
        unfold fV at h
        rw [hM] at h
        cases h.symm.trans hy
      · exact h
    · exact h
  · rw [fV_wF_ne hb]
    exact h
theorem fI_wF_eq (hS : SH M) (ha : gNth sT a = some g) (hB : iB g ci k = true) : zI (wF M a k x) a k = x := by
  obtain ⟨vs, h1, h2⟩ := hS.fi ha hB
  have hw : wF M a k x = gPut M a (.inr (ci, gPut vs k (.int x))) := by
    unfold wF
    rw [h1]
    dsimp only
    rw [h2]
  unfold zI
  rw [hw, fV_obj h1, if_pos ⟨rfl, rfl, gNth_lt _ _ _ h2⟩]
theorem fV_wG_ne (h : ¬ (b = a ∧ i = k)) : fV (wG M a k z) b i = fV M b i := by
  unfold wG
  split
  · rename_i c vs hM
    split
    · rw [fV_obj hM, if_neg (fun q => h ⟨q.1, q.2.1⟩)]
    · rfl
  · rfl
theorem fV_wG_ref {r : Nat} (h : fV M b i = some (.ref r)) : fV (wG M a k z) b i = some (.ref r) := by
  by_cases hb : b = a ∧ i = k
  · obtain ⟨rfl, rfl⟩ := hb
    unfold wG
    split
    · rename_i c vs hM
      split
      · rename_i y hy
        unfold fV at h
        rw [hM] at h
        cases h.symm.trans hy
      · exact h
    · exact h
  · rw [fV_wG_ne hb]
    exact h
theorem fI_wG : zI (wG M a k z) b i = zI M b i := by
  by_cases h : b = a ∧ i = k
  · obtain ⟨rfl, rfl⟩ := h
    unfold wG
    split
    · rename_i c vs hM
      split
      · rename_i y hy
        unfold zI
        have h1 : fV M b i = some (.long y) := by
          unfold fV
          rw [hM]
          exact hy
        rw [fV_obj hM, if_pos ⟨rfl, rfl, gNth_lt _ _ _ hy⟩, h1]
      · rfl
    · rfl
  · unfold zI
    rw [fV_wG_ne h]
theorem fR_wG : fR (wG M a k z) b i = fR M b i := by
  by_cases h : b = a ∧ i = k
  · obtain ⟨rfl, rfl⟩ := h
    unfold wG
    split
    · rename_i c vs hM
      split
      · rename_i y hy
        unfold fR
        have h1 : fV M b i = some (.long y) := by
          unfold fV
          rw [hM]
          exact hy
        rw [fV_obj hM, if_pos ⟨rfl, rfl, gNth_lt _ _ _ hy⟩, h1]
      · rfl
    · rfl
  · unfold fR
    rw [fV_wG_ne h]
theorem fL_wG_eq (hS : SH M) (ha : gNth sT a = some g) (hB : lB g ci k = true) : fL (wG M a k z) a k = z := by
  obtain ⟨vs, h1, h2⟩ := hS.fl ha hB
  have hw : wG M a k z = gPut M a (.inr (ci, gPut vs k (.long z))) := by
    unfold wG
    rw [h1]
    dsimp only
    rw [h2]
  unfold fL
  rw [hw, fV_obj h1, if_pos ⟨rfl, rfl, gNth_lt _ _ _ h2⟩]
/-! rows -/
theorem rwL_wF : zrw (wF M a k x) b = zrw M b := by
  unfold wF
  split
  · rename_i c vs hM
    split
    · unfold zrw
      rw [nth_put]
      by_cases hb : b = a ∧ a < M.length
      · rw [if_pos hb, hb.1, hM]
      · rw [if_neg hb]
    · rfl
  · rfl
theorem rwL_wG : zrw (wG M a k z) b = zrw M b := by
  unfold wG
  split
  · rename_i c vs hM
    split
    · unfold zrw
      rw [nth_put]
      by_cases hb : b = a ∧ a < M.length
      · rw [if_pos hb, hb.1, hM]
      · rw [if_neg hb]
    · rfl
  · rfl
theorem rwL_wR {r : Nat} : zrw (wR M a k r) b = zrw M b := by
  unfold wR
  split
  · rename_i hM
    unfold zrw
    rw [nth_put]
    by_cases hb : b = a ∧ a < M.length
    · rw [if_pos hb, hb.1, hM]
    · rw [if_neg hb]
  · rfl
theorem rwL_wI_ne (h : b ≠ a) : zrw (wI M a j x) b = zrw M b := by
  unfold wI
  split
  · unfold zrw
    rw [nth_put, if_neg (fun q => h q.1)]
  · rfl
theorem rwL_wI_eq : zrw (wI M a j x) a = gPut (zrw M a) j x := by
  unfold wI
  split
  · rename_i kd l hM
    have e : zrw M a = l := by
      unfold zrw
      rw [hM]
    rw [e]
    unfold zrw
    rw [nth_put, if_pos ⟨rfl, gNth_lt _ _ _ hM⟩]
  · rename_i hM
    have e : zrw M a = [] := by
      unfold zrw
      split
      · rename_i kd l h2
        exact absurd h2 (hM kd l)
      · rfl
    rw [e]
    rfl
theorem rN_wF : rN (wF M a k x) b j = rN M b j := by unfold rN; rw [rwL_wF]
theorem rN_wG : rN (wG M a k z) b j = rN M b j := by unfold rN; rw [rwL_wG]
theorem rN_wR {r : Nat} : rN (wR M a k r) b j = rN M b j := by unfold rN; rw [rwL_wR]
theorem rN_wI_ne (h : ¬ (b = a ∧ i = j)) : rN (wI M a j x) b i = rN M b i := by
  by_cases hb : b = a
  · subst hb
    unfold rN
    rw [rwL_wI_eq, nth_put, if_neg (fun q => h ⟨rfl, q.1⟩)]
  · unfold rN
    rw [rwL_wI_ne hb]
theorem rN_wI_eq (h : j < (zrw M a).length) : rN (wI M a j x) a j = x := by
  unfold rN
  rw [rwL_wI_eq, nth_put, if_pos ⟨rfl, h⟩]
  rfl
/-! the shape stays -/
theorem SH.put (hS : SH M) {e : AE} (h : ∀ g t, gNth sT a = some g → gNth sG g = some t → shC t e) : SH (gPut M a e) := by
  refine ⟨by rw [put_len]; exact hS.1, fun b g t h1 h2 => ?_⟩
  rw [nth_put]
  by_cases hb : b = a ∧ a < M.length
  · rw [if_pos hb]
    rw [hb.1] at h1
    exact ⟨e, rfl, h g t h1 h2⟩
  · rw [if_neg hb]
    exact hS.2 b g t h1 h2
theorem SH.ki (hS : SH M) : SH (wI M a j x) := by
  unfold wI
  split
  · rename_i kd l hM
    refine hS.put (fun g t h1 h2 => ?_)
    obtain ⟨e, e1, e2⟩ := hS.2 a g t h1 h2
    cases hM.symm.trans e1
    rcases t with ⟨ci, fs⟩ | ⟨q, n, u⟩
    · obtain ⟨vs, h3, _⟩ := e2
      cases h3
    · rcases u with sg | g2
      · match q, e2 with
        | 0, e2 => obtain ⟨l2, h3, h4⟩ := e2; cases h3; exact ⟨_, rfl, by rw [put_len]; exact h4⟩
        | 1, e2 => obtain ⟨l2, h3, h4⟩ := e2; cases h3; exact ⟨_, rfl, by rw [put_len]; exact h4⟩
        | 2, e2 => obtain ⟨l2, h3, h4⟩ := e2; cases h3
        | q + 3, e2 => obtain ⟨l2, h3, h4⟩ := e2; cases h3; exact ⟨_, rfl, by rw [put_len]; exact h4⟩
      · match q, e2 with
        | 0, e2 => obtain ⟨l2, h3, h4⟩ := e2; cases h3
        | 1, e2 => obtain ⟨l2, h3, h4⟩ := e2; cases h3
        | 2, e2 => obtain ⟨l2, h3, h4⟩ := e2; cases h3
        | q + 3, e2 => obtain ⟨l2, h3, h4⟩ := e2; cases h3
  · exact hS
theorem SH.kf (hS : SH M) : SH (wF M a k x) := by
  unfold wF
  split
  · rename_i c vs hM
    split
    · rename_i y hy
      refine hS.put (fun g t h1 h2 => ?_)
      obtain ⟨e, e1, e2⟩ := hS.2 a g t h1 h2
      cases hM.symm.trans e1
      rcases t with ⟨ci, fs⟩ | ⟨q, n, u⟩
      · obtain ⟨vs2, h3, h4, h5⟩ := e2
        cases h3
        refine ⟨_, rfl, by rw [put_len]; exact h4, fun k2 ft hk => ?_⟩
        obtain ⟨w, w1, w2⟩ := h5 k2 ft hk
        rw [nth_put]
        by_cases hk2 : k2 = k ∧ k < vs.length
        · rw [if_pos hk2]
          rw [hk2.1] at w1
          cases hy.symm.trans w1
          refine ⟨_, rfl, ?_⟩
          rcases ft with p | m
          · exact ⟨x, rfl⟩
          · match m, w2 with
            | 0, w2 => obtain ⟨z, w2⟩ := w2; cases w2
            | m + 1, w2 =>
              rcases w2 with ⟨r, w2, _⟩ | ⟨_, w2⟩
              · cases w2
              · cases w2
        · rw [if_neg hk2]
          exact ⟨w, w1, w2⟩
      · exfalso
        rcases u with sg | g2
        · match q, e2 with
          | 0, e2 => obtain ⟨l2, h3, _⟩ := e2; cases h3
          | 1, e2 => obtain ⟨l2, h3, _⟩ := e2; cases h3
          | 2, e2 => obtain ⟨l2, h3, _⟩ := e2; cases h3
          | q + 3, e2 => obtain ⟨l2, h3, _⟩ := e2; cases h3
        · match q, e2 with
          | 0, e2 => obtain ⟨l2, h3, _⟩ := e2; cases h3
          | 1, e2 => obtain ⟨l2, h3, _⟩ := e2; cases h3
          | 2, e2 => obtain ⟨l2, h3, _⟩ := e2; cases h3
          | q + 3, e2 => obtain ⟨l2, h3, _⟩ := e2; cases h3
    · exact hS
  · exact hS
theorem SH.kg (hS : SH M) : SH (wG M a k z) := by
  unfold wG
  split
  · rename_i c vs hM
    split
    · rename_i y hy
      refine hS.put (fun g t h1 h2 => ?_)
      obtain ⟨e, e1, e2⟩ := hS.2 a g t h1 h2
      cases hM.symm.trans e1
      rcases t with ⟨ci, fs⟩ | ⟨q, n, u⟩
      · obtain ⟨vs2, h3, h4, h5⟩ := e2
        cases h3
        refine ⟨_, rfl, by rw [put_len]; exact h4, fun k2 ft hk => ?_⟩
        obtain ⟨w, w1, w2⟩ := h5 k2 ft hk
        rw [nth_put]
        by_cases hk2 : k2 = k ∧ k < vs.length
        · rw [if_pos hk2]
          rw [hk2.1] at w1
          cases hy.symm.trans w1
          refine ⟨_, rfl, ?_⟩
          rcases ft with p | m
          · obtain ⟨y2, w2⟩ := w2
            cases w2
          · match m, w2 with
            | 0, w2 => exact ⟨z, rfl⟩
            | m + 1, w2 =>
              rcases w2 with ⟨r, w2, _⟩ | ⟨_, w2⟩
              · cases w2
              · cases w2
        · rw [if_neg hk2]
          exact ⟨w, w1, w2⟩
      · exfalso
        rcases u with sg | g2
        · match q, e2 with
          | 0, e2 => obtain ⟨l2, h3, _⟩ := e2; cases h3
          | 1, e2 => obtain ⟨l2, h3, _⟩ := e2; cases h3
          | 2, e2 => obtain ⟨l2, h3, _⟩ := e2; cases h3
          | q + 3, e2 => obtain ⟨l2, h3, _⟩ := e2; cases h3
        · match q, e2 with
          | 0, e2 => obtain ⟨l2, h3, _⟩ := e2; cases h3
          | 1, e2 => obtain ⟨l2, h3, _⟩ := e2; cases h3
          | 2, e2 => obtain ⟨l2, h3, _⟩ := e2; cases h3
          | q + 3, e2 => obtain ⟨l2, h3, _⟩ := e2; cases h3
    · exact hS
  · exact hS
theorem FX.mv {M' : Mem} (h : FX M) (hf : ∀ b i r, fV M b i = some (.ref r) → fV M' b i = some (.ref r)) : FX M' :=
  ⟨fun t ht k hk => hf _ _ _ (h.1 t ht k hk), fun a ha => ⟨fun k hk => hf _ _ _ ((h.2 a ha).1 k hk), hf _ _ _ (h.2 a ha).2.1, hf _ _ _ (h.2 a ha).2.2.1, hf _ _ _ (h.2 a ha).2.2.2⟩⟩
theorem SQ.ki (h : SQ M) : SQ (wI M a j x) := ⟨h.1.ki, h.2.mv (fun b i r q => by rw [fV_wI]; exact q)⟩
theorem SQ.kf (h : SQ M) : SQ (wF M a k x) := ⟨h.1.kf, h.2.mv (fun b i r q => fV_wF_ref q)⟩
theorem SQ.kg (h : SQ M) : SQ (wG M a k z) := ⟨h.1.kg, h.2.mv (fun b i r q => fV_wG_ref q)⟩
theorem fV_wR_ne {r : Nat} (h : ¬ (b = a ∧ i = k)) : fV (wR M a k r) b i = fV M b i := by
  unfold wR
  split
  · rename_i hM
    rw [fV_obj hM, if_neg (fun q => h ⟨q.1, q.2.1⟩)]
  · rfl
theorem fI_wR_ne {r : Nat} (h : ¬ (b = a ∧ i = k)) : zI (wR M a k r) b i = zI M b i := by unfold zI; rw [fV_wR_ne h]
theorem fR_wR_ne {r : Nat} (h : ¬ (b = a ∧ i = k)) : fR (wR M a k r) b i = fR M b i := by unfold fR; rw [fV_wR_ne h]
noncomputable def kB (g ci k : Nat) : Bool := match gNth sG g with
  | some (.inl (c, fs)) => Nat.beq c ci && Nat.blt k fs.length
  | _ => false
theorem fR_wR_eq {r : Nat} (hS : SH M) (ha : gNth sT a = some g) (hB : kB g ci k = true) : fR (wR M a k r) a k = r := by
  unfold kB at hB
  split at hB
  rotate_left
  · cases hB
  rename_i c fs e
  obtain ⟨b1, b2⟩ := and_t hB
  cases Nat.eq_of_beq_eq_true b1
  obtain ⟨_, e1, vs, rfl, e2, _⟩ := hS.2 a g _ ha e
  have hk : k < vs.length := by
    rw [e2]
    exact Nat.le_of_ble_eq_true b2
  unfold fR
  have hw : wR M a k r = gPut M a (.inr (ci, gPut vs k (.ref r))) := by
    unfold wR
    rw [e1]
  rw [hw, fV_obj e1, if_pos ⟨rfl, rfl, hk⟩]
noncomputable def rB (g ci k g2 : Nat) : Bool := match gNth sG g with
  | some (.inl (c, fs)) => Nat.beq c ci && (match gNth fs k with
    | some (.inr n) => Nat.beq n (2 * g2 + 1) || Nat.beq n (2 * g2 + 2)
    | _ => false)
  | _ => false
theorem SH.kr {r : Nat} (hS : SH M) (ha : gNth sT a = some g) (hB : rB g ci k g2 = true) (hr : gNth sT r = some g2) : SH (wR M a k r) := by
  unfold wR
  split
  · rename_i c vs hM
    refine hS.put (fun g' t h1 h2 => ?_)
    cases ha.symm.trans h1
    unfold rB at hB
    rw [h2] at hB
    rcases t with ⟨ci', fs⟩ | ⟨q, n, u⟩
    · obtain ⟨b1, b2⟩ := and_t hB
      obtain ⟨e, e1, e2⟩ := hS.2 a g _ ha h2
      cases hM.symm.trans e1
      obtain ⟨vs2, h3, h4, h5⟩ := e2
      cases h3
      refine ⟨_, rfl, by rw [put_len]; exact h4, fun k2 ft hk => ?_⟩
      obtain ⟨w, w1, w2⟩ := h5 k2 ft hk
      rw [nth_put]
      by_cases hk2 : k2 = k ∧ k < vs.length
      · rw [if_pos hk2]
        refine ⟨_, rfl, ?_⟩
        rw [hk2.1] at hk
        rw [hk] at b2
        rcases ft with p | m
        · cases b2
        · have b2 : (Nat.beq m (2 * g2 + 1) || Nat.beq m (2 * g2 + 2)) = true := b2
          rw [Bool.or_eq_true] at b2
          have hm : ∃ m', m = m' + 1 ∧ m' / 2 = g2 := by
            rcases b2 with b2 | b2
            · exact ⟨2 * g2, Nat.eq_of_beq_eq_true b2, by omega⟩
            · exact ⟨2 * g2 + 1, Nat.eq_of_beq_eq_true b2, by omega⟩
          obtain ⟨m', rfl, hm⟩ := hm
          exact Or.inl ⟨r, rfl, by rw [hm]; exact hr⟩
      · rw [if_neg hk2]
        exact ⟨w, w1, w2⟩
    · cases hB
  · exact hS
theorem SQ.kr {r : Nat} (h : SQ M) (ha : gNth sT a = some g) (hB : rB g ci k g2 = true) (hr : gNth sT r = some g2) (h1 : ∀ t ∈ fxT, t ≠ a) (h2 : ∀ t ∈ fxA, t ≠ a) : SQ (wR M a k r) :=
  ⟨h.1.kr ha hB hr, ⟨fun t ht k2 hk => by rw [fV_wR_ne (fun q => h1 t ht q.1)]; exact h.2.1 t ht k2 hk, fun t ht => by
    refine ⟨fun k2 hk => ?_, ?_, ?_, ?_⟩
    · rw [fV_wR_ne (fun q => h2 t ht q.1)]; exact (h.2.2 t ht).1 k2 hk
    · rw [fV_wR_ne (fun q => h2 t ht q.1)]; exact (h.2.2 t ht).2.1
    · rw [fV_wR_ne (fun q => h2 t ht q.1)]; exact (h.2.2 t ht).2.2.1
    · rw [fV_wR_ne (fun q => h2 t ht q.1)]; exact (h.2.2 t ht).2.2.2⟩⟩
end UPD
/-! WRITING INTO A ROW OF REFERENCES -/
noncomputable def wO (M : Mem) (a j r : Nat) : Mem := match gNth M a with
  | some (.inl (kd, .inr (.inr l))) => gPut M a (.inl (kd, .inr (.inr (gPut l j (some r)))))
  | _ => M
section WO
variable {M M' : Mem} {a b g g2 kd n j i k r : Nat}
theorem wO_eq {l : List (Option Nat)} (h : gNth M a = some (.inl (kd, .inr (.inr l)))) : wO M a j r = gPut M a (.inl (kd, .inr (.inr (gPut l j (some r))))) := by
  unfold wO
  rw [h]
theorem fV_wO : fV (wO M a j r) b k = fV M b k := by
  unfold wO
  split
  · rename_i hM
    exact fV_put (fun c vs q => by cases q) (fun c vs q => by rw [hM] at q; cases q)
  · rfl
theorem fI_wO : zI (wO M a j r) b k = zI M b k := by unfold zI; rw [fV_wO]
theorem fR_wO : fR (wO M a j r) b k = fR M b k := by unfold fR; rw [fV_wO]
theorem fL_wO : fL (wO M a j r) b k = fL M b k := by unfold fL; rw [fV_wO]
theorem rwL_wO : zrw (wO M a j r) b = zrw M b := by
  unfold wO
  split
  · rename_i hM
    unfold zrw
    rw [nth_put]
    by_cases hb : b = a ∧ a < M.length
    · rw [if_pos hb, hb.1, hM]
    · rw [if_neg hb]
  · rfl
theorem rN_wO : rN (wO M a j r) b i = rN M b i := by unfold rN; rw [rwL_wO]
theorem roL_wO_ne (h : b ≠ a) : roL (wO M a j r) b = roL M b := by
  unfold wO
  split
  · unfold roL
    rw [nth_put, if_neg (fun q => h q.1)]
  · rfl
theorem roL_wO_eq (hS : SH M) (ha : gNth sT a = some g) (hB : rrB g kd n g2 = true) : roL (wO M a j r) a = gPut (roL M a) j (some r) := by
  obtain ⟨h1, h2, _⟩ := hS.ror ha hB
  rw [wO_eq h1]
  unfold roL
  have hlt : a < M.length := by
    exact gNth_lt _ _ _ h1
  rw [nth_put, if_pos ⟨rfl, hlt⟩]
theorem oN_wO_ne (hS : SH M) (ha : gNth sT a = some g) (hB : rrB g kd n g2 = true) (h : i ≠ j) : oN (wO M a j r) a i = oN M a i := by
  unfold oN
  rw [roL_wO_eq hS ha hB, nth_put, if_neg (fun q => h q.1)]
theorem oN_wO_eq (hS : SH M) (ha : gNth sT a = some g) (hB : rrB g kd n g2 = true) (h : j < n) : oN (wO M a j r) a j = r := by
  unfold oN
  obtain ⟨h1, h2, _⟩ := hS.ror ha hB
  rw [roL_wO_eq hS ha hB, nth_put, if_pos ⟨rfl, by omega⟩]
  rfl
theorem SH.ko (hS : SH M) (ha : gNth sT a = some g) (hB : rrB g kd n g2 = true) (hr : gNth sT r = some g2) : SH (wO M a j r) := by
  obtain ⟨h1, h2, h3⟩ := hS.ror ha hB
  rw [wO_eq h1]
  refine hS.put (fun g' t h4 h5 => ?_)
  cases ha.symm.trans h4
  unfold rrB at hB
  rw [h5] at hB
  rcases t with ⟨ci, fs⟩ | ⟨q, m, u⟩
  · cases hB
  · rcases u with sg | h
    · cases hB
    · obtain ⟨b0, hB⟩ := and_t hB
      obtain ⟨b1, hB⟩ := and_t hB
      obtain ⟨b2, b3⟩ := and_t hB
      cases Nat.eq_of_beq_eq_true b1
      cases Nat.eq_of_beq_eq_true b2
      cases Nat.eq_of_beq_eq_true b3
      have hx : ∃ l : List (Option Nat), (Sum.inl (kd, .inr (.inr (gPut (roL M a) j (some r)))) : AE) = .inl (kd, .inr (.inr l)) ∧ l.length = n ∧ ∀ i x, gNth l i = some x → ∃ a, x = some a ∧ gNth sT a = some g2 := by
        refine ⟨_, rfl, by rw [put_len]; exact h2, fun i x hx => ?_⟩
        rw [nth_put] at hx
        by_cases hi : i = j ∧ j < (roL M a).length
        · rw [if_pos hi] at hx
          cases hx
          exact ⟨r, rfl, hr⟩
        · rw [if_neg hi] at hx
          have hi2 : i < n := by
            rw [← h2]
            exact gNth_lt _ _ _ hx
          obtain ⟨q1, q2⟩ := h3 i hi2
          rw [q1] at hx
          cases hx
          exact ⟨_, rfl, q2⟩
      have hq : kd ≠ 2 := by
        rintro rfl
        cases b0
      match kd, hq, hx with
      | 0, _, h => exact h
      | 1, _, h => exact h
      | _ + 3, _, h => exact h
theorem SQ.ko (h : SQ M) (ha : gNth sT a = some g) (hB : rrB g kd n g2 = true) (hr : gNth sT r = some g2) : SQ (wO M a j r) := ⟨h.1.ko ha hB hr, h.2.mv (fun b i r q => by rw [fV_wO]; exact q)⟩
variable {d me pc o np kf mx c s : Nat} {y : MethodName} {cc : ByteArray} {ret : Option FieldType} {tab : List (Nat × Nat × Instr)} {ls : Lo} {st : List Value} {v : Option Value}
theorem Ev.aas {z : Int32} (hrow : gNth mRs me = some (o, y, cc, mx, ret, np, kf, tab)) (hl : gLook tab pc = some (4, .aastore)) (hS : SH M) (ha : gNth sT a = some g) (hB : rrB g kd n g2 = true) (h : Ev none d me pc ls (.ref r :: .int z :: .ref a :: st) M v M' c s) : (0 ≤ z.toInt ∧ z.toInt < (n : Int)) ∧ Ev none d me (pc + 1) ls st (wO M a z.toNatClampNeg r) v M' c s := by
  obtain ⟨st1, M1, e, h⟩ := Ev.put hrow hl h
  obtain ⟨h1, h2, h3⟩ := hS.ror ha hB
  have e : (match gNth M a, gNth M r with
      | some (.inl (t, .inr (.inr l))), some (.inr (c, _)) => match gAt l z with
        | some _ => cond (Nat.beq (gEl t) c) (some (st, gPut M a (.inl (t, .inr (.inr (gPut l z.toNatClampNeg (some r))))))) none
        | none => none
      | _, _ => none) = some (st1, M1) := e
  rw [h1] at e
  cases hr : gNth M r with
  | none => rw [hr] at e; cases e
  | some w =>
    rw [hr] at e
    rcases w with w | ⟨c1, vs⟩
    · cases e
    · have e : (match gAt (roL M a) z with
        | some _ => cond (Nat.beq (gEl kd) c1) (some (st, gPut M a (.inl (kd, .inr (.inr (gPut (roL M a) z.toNatClampNeg (some r))))))) none
        | none => none) = some (st1, M1) := e
      cases hg : gAt (roL M a) z with
      | none => rw [hg] at e; cases e
      | some x2 =>
        rw [hg] at e
        obtain ⟨-, e⟩ := cond_inv e
        cases e
        obtain ⟨q1, q2, q3⟩ := gat_ino hg
        rw [h2] at q2
        rw [wO_eq h1]
        exact ⟨⟨q1, q2⟩, h⟩
end WO
/-! FACTS OF THE LAYOUT -/
set_option maxRecDepth 100000 in
theorem qa_0 : gNth sT 0 = some 0 := by decide +kernel
set_option maxRecDepth 100000 in
theorem qu_0 : gNth sU 0 = some (some 0) := by decide +kernel
set_option maxRecDepth 100000 in
theorem qa_1 : gNth sT 1 = some 1 := by decide +kernel
set_option maxRecDepth 100000 in
theorem qu_1 : gNth sU 1 = some (some 1) := by decide +kernel
set_option maxRecDepth 100000 in
theorem qa_2 : gNth sT 2 = some 2 := by decide +kernel
set_option maxRecDepth 100000 in
theorem qu_2 : gNth sU 2 = some (some 2) := by decide +kernel
set_option maxRecDepth 100000 in
theorem qa_3 : gNth sT 3 = some 3 := by decide +kernel
set_option maxRecDepth 100000 in
theorem qu_3 : gNth sU 3 = some (some 3) := by decide +kernel
set_option maxRecDepth 100000 in
theorem qa_4 : gNth sT 4 = some 4 := by decide +kernel
set_option maxRecDepth 100000 in
theorem qu_4 : gNth sU 4 = some (some 4) := by decide +kernel
set_option maxRecDepth 100000 in
theorem qa_5 : gNth sT 5 = some 5 := by decide +kernel
set_option maxRecDepth 100000 in
theorem qu_5 : gNth sU 5 = some (some 5) := by decide +kernel
set_option maxRecDepth 100000 in
theorem qa_6 : gNth sT 6 = some 6 := by decide +kernel
set_option maxRecDepth 100000 in
theorem qu_6 : gNth sU 6 = some (some 6) := by decide +kernel
set_option maxRecDepth 100000 in
theorem qa_7 : gNth sT 7 = some 7 := by decide +kernel
set_option maxRecDepth 100000 in
theorem qu_7 : gNth sU 7 = some (some 7) := by decide +kernel
set_option maxRecDepth 100000 in
theorem qa_104 : gNth sT 104 = some 22 := by decide +kernel
set_option maxRecDepth 100000 in
theorem qu_22 : gNth sU 22 = some (some 104) := by decide +kernel
set_option maxRecDepth 100000 in
theorem qa_105 : gNth sT 105 = some 23 := by decide +kernel
set_option maxRecDepth 100000 in
theorem qu_23 : gNth sU 23 = some (some 105) := by decide +kernel
set_option maxRecDepth 100000 in
theorem qa_106 : gNth sT 106 = some 24 := by decide +kernel
set_option maxRecDepth 100000 in
theorem qu_24 : gNth sU 24 = some (some 106) := by decide +kernel
set_option maxRecDepth 100000 in
theorem qa_107 : gNth sT 107 = some 25 := by decide +kernel
set_option maxRecDepth 100000 in
theorem qu_25 : gNth sU 25 = some (some 107) := by decide +kernel
set_option maxRecDepth 100000 in
theorem qa_108 : gNth sT 108 = some 26 := by decide +kernel
set_option maxRecDepth 100000 in
theorem qu_26 : gNth sU 26 = some (some 108) := by decide +kernel
set_option maxRecDepth 100000 in
theorem qa_109 : gNth sT 109 = some 27 := by decide +kernel
set_option maxRecDepth 100000 in
theorem qu_27 : gNth sU 27 = some (some 109) := by decide +kernel
set_option maxRecDepth 100000 in
theorem qa_128 : gNth sT 128 = some 37 := by decide +kernel
set_option maxRecDepth 100000 in
theorem qu_37 : gNth sU 37 = some (some 128) := by decide +kernel
set_option maxRecDepth 100000 in
theorem qa_129 : gNth sT 129 = some 38 := by decide +kernel
set_option maxRecDepth 100000 in
theorem qu_38 : gNth sU 38 = some (some 129) := by decide +kernel
set_option maxRecDepth 100000 in
theorem qa_137 : gNth sT 137 = some 40 := by decide +kernel
set_option maxRecDepth 100000 in
theorem qu_40 : gNth sU 40 = some (some 137) := by decide +kernel
set_option maxRecDepth 100000 in
theorem qa_192 : gNth sT 192 = some 41 := by decide +kernel
set_option maxRecDepth 100000 in
theorem qu_41 : gNth sU 41 = some (some 192) := by decide +kernel
set_option maxRecDepth 100000 in
theorem qa_193 : gNth sT 193 = some 42 := by decide +kernel
set_option maxRecDepth 100000 in
theorem qu_42 : gNth sU 42 = some (some 193) := by decide +kernel
set_option maxRecDepth 100000 in
theorem qa_195 : gNth sT 195 = some 44 := by decide +kernel
set_option maxRecDepth 100000 in
theorem qu_44 : gNth sU 44 = some (some 195) := by decide +kernel
set_option maxRecDepth 100000 in
theorem qa_196 : gNth sT 196 = some 45 := by decide +kernel
set_option maxRecDepth 100000 in
theorem qu_45 : gNth sU 45 = some (some 196) := by decide +kernel
set_option maxRecDepth 100000 in
theorem qa_229 : gNth sT 229 = some 46 := by decide +kernel
set_option maxRecDepth 100000 in
theorem qu_46 : gNth sU 46 = some (some 229) := by decide +kernel
set_option maxRecDepth 100000 in
theorem qa_230 : gNth sT 230 = some 47 := by decide +kernel
set_option maxRecDepth 100000 in
theorem qu_47 : gNth sU 47 = some (some 230) := by decide +kernel
set_option maxRecDepth 100000 in
theorem qa_236 : gNth sT 236 = some 49 := by decide +kernel
set_option maxRecDepth 100000 in
theorem qu_49 : gNth sU 49 = some (some 236) := by decide +kernel
set_option maxRecDepth 100000 in
theorem qa_237 : gNth sT 237 = some 50 := by decide +kernel
set_option maxRecDepth 100000 in
theorem qu_50 : gNth sU 50 = some (some 237) := by decide +kernel
set_option maxRecDepth 100000 in
theorem qa_238 : gNth sT 238 = some 51 := by decide +kernel
set_option maxRecDepth 100000 in
theorem qu_51 : gNth sU 51 = some (some 238) := by decide +kernel
set_option maxRecDepth 100000 in
theorem qa_239 : gNth sT 239 = some 52 := by decide +kernel
set_option maxRecDepth 100000 in
theorem qu_52 : gNth sU 52 = some (some 239) := by decide +kernel
set_option maxRecDepth 100000 in
theorem qa_240 : gNth sT 240 = some 53 := by decide +kernel
set_option maxRecDepth 100000 in
theorem qu_53 : gNth sU 53 = some (some 240) := by decide +kernel
set_option maxRecDepth 100000 in
theorem qa_241 : gNth sT 241 = some 54 := by decide +kernel
set_option maxRecDepth 100000 in
theorem qu_54 : gNth sU 54 = some (some 241) := by decide +kernel
set_option maxRecDepth 100000 in
theorem qa_242 : gNth sT 242 = some 55 := by decide +kernel
set_option maxRecDepth 100000 in
theorem qu_55 : gNth sU 55 = some (some 242) := by decide +kernel
set_option maxRecDepth 100000 in
theorem qa_339 : gNth sT 339 = some 56 := by decide +kernel
set_option maxRecDepth 100000 in
theorem qu_56 : gNth sU 56 = some (some 339) := by decide +kernel
set_option maxRecDepth 100000 in
theorem qa_340 : gNth sT 340 = some 57 := by decide +kernel
set_option maxRecDepth 100000 in
theorem qu_57 : gNth sU 57 = some (some 340) := by decide +kernel
set_option maxRecDepth 100000 in
theorem qa_343 : gNth sT 343 = some 59 := by decide +kernel
set_option maxRecDepth 100000 in
theorem qu_59 : gNth sU 59 = some (some 343) := by decide +kernel
set_option maxRecDepth 100000 in
theorem qa_344 : gNth sT 344 = some 60 := by decide +kernel
set_option maxRecDepth 100000 in
theorem qu_60 : gNth sU 60 = some (some 344) := by decide +kernel
set_option maxRecDepth 100000 in
theorem qa_633 : gNth sT 633 = some 61 := by decide +kernel
set_option maxRecDepth 100000 in
theorem qu_61 : gNth sU 61 = some (some 633) := by decide +kernel
set_option maxRecDepth 100000 in
theorem qa_634 : gNth sT 634 = some 62 := by decide +kernel
set_option maxRecDepth 100000 in
theorem qu_62 : gNth sU 62 = some (some 634) := by decide +kernel
set_option maxRecDepth 100000 in
theorem qa_635 : gNth sT 635 = some 63 := by decide +kernel
set_option maxRecDepth 100000 in
theorem qu_63 : gNth sU 63 = some (some 635) := by decide +kernel
set_option maxRecDepth 100000 in
theorem qa_636 : gNth sT 636 = some 64 := by decide +kernel
set_option maxRecDepth 100000 in
theorem qu_64 : gNth sU 64 = some (some 636) := by decide +kernel
set_option maxRecDepth 100000 in
theorem qa_637 : gNth sT 637 = some 65 := by decide +kernel
set_option maxRecDepth 100000 in
theorem qu_65 : gNth sU 65 = some (some 637) := by decide +kernel
set_option maxRecDepth 100000 in
theorem qa_638 : gNth sT 638 = some 66 := by decide +kernel
set_option maxRecDepth 100000 in
theorem qu_66 : gNth sU 66 = some (some 638) := by decide +kernel
set_option maxRecDepth 100000 in
theorem qa_639 : gNth sT 639 = some 67 := by decide +kernel
set_option maxRecDepth 100000 in
theorem qu_67 : gNth sU 67 = some (some 639) := by decide +kernel
set_option maxRecDepth 100000 in
theorem qa_640 : gNth sT 640 = some 68 := by decide +kernel
set_option maxRecDepth 100000 in
theorem qu_68 : gNth sU 68 = some (some 640) := by decide +kernel
set_option maxRecDepth 100000 in
theorem qa_641 : gNth sT 641 = some 69 := by decide +kernel
set_option maxRecDepth 100000 in
theorem qu_69 : gNth sU 69 = some (some 641) := by decide +kernel
set_option maxRecDepth 100000 in
theorem qa_642 : gNth sT 642 = some 70 := by decide +kernel
set_option maxRecDepth 100000 in
theorem qu_70 : gNth sU 70 = some (some 642) := by decide +kernel
set_option maxRecDepth 100000 in
theorem qa_643 : gNth sT 643 = some 71 := by decide +kernel
set_option maxRecDepth 100000 in
theorem qu_71 : gNth sU 71 = some (some 643) := by decide +kernel
set_option maxRecDepth 100000 in
theorem qa_644 : gNth sT 644 = some 72 := by decide +kernel
set_option maxRecDepth 100000 in
theorem qu_72 : gNth sU 72 = some (some 644) := by decide +kernel
set_option maxRecDepth 100000 in
theorem qa_645 : gNth sT 645 = some 73 := by decide +kernel
set_option maxRecDepth 100000 in
theorem qu_73 : gNth sU 73 = some (some 645) := by decide +kernel
set_option maxRecDepth 100000 in
theorem qa_646 : gNth sT 646 = some 74 := by decide +kernel
set_option maxRecDepth 100000 in
theorem qu_74 : gNth sU 74 = some (some 646) := by decide +kernel
set_option maxRecDepth 100000 in
theorem qa_647 : gNth sT 647 = some 75 := by decide +kernel
set_option maxRecDepth 100000 in
theorem qu_75 : gNth sU 75 = some (some 647) := by decide +kernel
set_option maxRecDepth 100000 in
theorem qa_648 : gNth sT 648 = some 76 := by decide +kernel
set_option maxRecDepth 100000 in
theorem qu_76 : gNth sU 76 = some (some 648) := by decide +kernel
set_option maxRecDepth 100000 in
theorem qa_649 : gNth sT 649 = some 77 := by decide +kernel
set_option maxRecDepth 100000 in
theorem qu_77 : gNth sU 77 = some (some 649) := by decide +kernel
set_option maxRecDepth 100000 in
theorem qa_650 : gNth sT 650 = some 78 := by decide +kernel
set_option maxRecDepth 100000 in
theorem qu_78 : gNth sU 78 = some (some 650) := by decide +kernel
set_option maxRecDepth 100000 in
theorem qa_651 : gNth sT 651 = some 79 := by decide +kernel
set_option maxRecDepth 100000 in
theorem qu_79 : gNth sU 79 = some (some 651) := by decide +kernel
set_option maxRecDepth 100000 in
theorem qa_652 : gNth sT 652 = some 80 := by decide +kernel
set_option maxRecDepth 100000 in
theorem qu_80 : gNth sU 80 = some (some 652) := by decide +kernel
set_option maxRecDepth 100000 in
theorem qa_653 : gNth sT 653 = some 81 := by decide +kernel
set_option maxRecDepth 100000 in
theorem qu_81 : gNth sU 81 = some (some 653) := by decide +kernel
set_option maxRecDepth 100000 in
theorem qa_654 : gNth sT 654 = some 82 := by decide +kernel
set_option maxRecDepth 100000 in
theorem qu_82 : gNth sU 82 = some (some 654) := by decide +kernel
set_option maxRecDepth 100000 in
theorem qa_655 : gNth sT 655 = some 83 := by decide +kernel
set_option maxRecDepth 100000 in
theorem qu_83 : gNth sU 83 = some (some 655) := by decide +kernel
set_option maxRecDepth 100000 in
theorem qa_656 : gNth sT 656 = some 84 := by decide +kernel
set_option maxRecDepth 100000 in
theorem qu_84 : gNth sU 84 = some (some 656) := by decide +kernel
set_option maxRecDepth 100000 in
theorem qa_657 : gNth sT 657 = some 85 := by decide +kernel
set_option maxRecDepth 100000 in
theorem qu_85 : gNth sU 85 = some (some 657) := by decide +kernel
set_option maxRecDepth 100000 in
theorem qa_658 : gNth sT 658 = some 86 := by decide +kernel
set_option maxRecDepth 100000 in
theorem qu_86 : gNth sU 86 = some (some 658) := by decide +kernel
set_option maxRecDepth 100000 in
theorem qa_659 : gNth sT 659 = some 87 := by decide +kernel
set_option maxRecDepth 100000 in
theorem qu_87 : gNth sU 87 = some (some 659) := by decide +kernel
set_option maxRecDepth 100000 in
theorem qa_660 : gNth sT 660 = some 88 := by decide +kernel
set_option maxRecDepth 100000 in
theorem qu_88 : gNth sU 88 = some (some 660) := by decide +kernel
set_option maxRecDepth 100000 in
theorem qa_661 : gNth sT 661 = some 89 := by decide +kernel
set_option maxRecDepth 100000 in
theorem qu_89 : gNth sU 89 = some (some 661) := by decide +kernel
set_option maxRecDepth 100000 in
theorem qa_662 : gNth sT 662 = some 90 := by decide +kernel
set_option maxRecDepth 100000 in
theorem qu_90 : gNth sU 90 = some (some 662) := by decide +kernel
set_option maxRecDepth 100000 in
theorem qa_663 : gNth sT 663 = some 91 := by decide +kernel
set_option maxRecDepth 100000 in
theorem qu_91 : gNth sU 91 = some (some 663) := by decide +kernel
set_option maxRecDepth 100000 in
theorem qa_8 : gNth sT 8 = some 8 := by decide +kernel
set_option maxRecDepth 100000 in
theorem qa_243 : gNth sT 243 = some 8 := by decide +kernel
set_option maxRecDepth 100000 in
theorem qa_345 : gNth sT 345 = some 8 := by decide +kernel
set_option maxRecDepth 100000 in
theorem qa_441 : gNth sT 441 = some 8 := by decide +kernel
set_option maxRecDepth 100000 in
theorem qa_537 : gNth sT 537 = some 8 := by decide +kernel
set_option maxRecDepth 100000 in
theorem qo_0 : oB 0 10 = true := by decide +kernel
set_option maxRecDepth 100000 in
theorem qr_0_0 : fdB 0 10 0 1 = true := by decide +kernel
set_option maxRecDepth 100000 in
theorem qr_0_1 : fdB 0 10 1 3 = true := by decide +kernel
set_option maxRecDepth 100000 in
theorem qr_0_2 : fdB 0 10 2 8 = true := by decide +kernel
set_option maxRecDepth 100000 in
theorem qr_0_3 : fdB 0 10 3 22 = true := by decide +kernel
set_option maxRecDepth 100000 in
theorem qr_0_4 : fdB 0 10 4 41 = true := by decide +kernel
set_option maxRecDepth 100000 in
theorem qr_0_5 : fdB 0 10 5 46 = true := by decide +kernel
set_option maxRecDepth 100000 in
theorem qr_0_6 : fdB 0 10 6 8 = true := by decide +kernel
set_option maxRecDepth 100000 in
theorem qr_0_7 : fdB 0 10 7 56 = true := by decide +kernel
set_option maxRecDepth 100000 in
theorem qr_0_8 : fdB 0 10 8 57 = true := by decide +kernel
set_option maxRecDepth 100000 in
theorem qr_0_9 : fdB 0 10 9 58 = true := by decide +kernel
set_option maxRecDepth 100000 in
theorem qr_0_10 : fdB 0 10 10 58 = true := by decide +kernel
set_option maxRecDepth 100000 in
theorem qr_0_11 : fdB 0 10 11 59 = true := by decide +kernel
set_option maxRecDepth 100000 in
theorem qr_0_12 : fdB 0 10 12 60 = true := by decide +kernel
set_option maxRecDepth 100000 in
theorem qi_0_13 : iB 0 10 13 = true := by decide +kernel
set_option maxRecDepth 100000 in
theorem qi_0_14 : iB 0 10 14 = true := by decide +kernel
set_option maxRecDepth 100000 in
theorem qi_0_15 : iB 0 10 15 = true := by decide +kernel
set_option maxRecDepth 100000 in
theorem qo_1 : oB 1 5 = true := by decide +kernel
set_option maxRecDepth 100000 in
theorem qr_1_0 : fdB 1 5 0 2 = true := by decide +kernel
set_option maxRecDepth 100000 in
theorem qi_1_1 : iB 1 5 1 = true := by decide +kernel
set_option maxRecDepth 100000 in
theorem qw_2 : wB 2 1 440 = true := by decide +kernel
set_option maxRecDepth 100000 in
theorem qo_3 : oB 3 3 = true := by decide +kernel
set_option maxRecDepth 100000 in
theorem qr_3_0 : fdB 3 3 0 1 = true := by decide +kernel
set_option maxRecDepth 100000 in
theorem qr_3_1 : fdB 3 3 1 4 = true := by decide +kernel
set_option maxRecDepth 100000 in
theorem qr_3_2 : fdB 3 3 2 5 = true := by decide +kernel
set_option maxRecDepth 100000 in
theorem qr_3_3 : fdB 3 3 3 6 = true := by decide +kernel
set_option maxRecDepth 100000 in
theorem qr_3_4 : fdB 3 3 4 7 = true := by decide +kernel
set_option maxRecDepth 100000 in
theorem qi_3_5 : iB 3 3 5 = true := by decide +kernel
set_option maxRecDepth 100000 in
theorem qi_3_6 : iB 3 3 6 = true := by decide +kernel
set_option maxRecDepth 100000 in
theorem qi_3_7 : iB 3 3 7 = true := by decide +kernel
set_option maxRecDepth 100000 in
theorem qn_3_8 : nB 3 3 8 28 = true := by decide +kernel
set_option maxRecDepth 100000 in
theorem qi_3_9 : iB 3 3 9 = true := by decide +kernel
set_option maxRecDepth 100000 in
theorem qi_3_10 : iB 3 3 10 = true := by decide +kernel
set_option maxRecDepth 100000 in
theorem qi_3_11 : iB 3 3 11 = true := by decide +kernel
set_option maxRecDepth 100000 in
theorem qi_3_12 : iB 3 3 12 = true := by decide +kernel
set_option maxRecDepth 100000 in
theorem qi_3_13 : iB 3 3 13 = true := by decide +kernel
set_option maxRecDepth 100000 in
theorem qw_4 : wB 4 1 401 = true := by decide +kernel
set_option maxRecDepth 100000 in
theorem qw_5 : wB 5 1 401 = true := by decide +kernel
set_option maxRecDepth 100000 in
theorem qw_6 : wB 6 1 401 = true := by decide +kernel
set_option maxRecDepth 100000 in
theorem qw_7 : wB 7 1 401 = true := by decide +kernel
set_option maxRecDepth 100000 in
theorem qo_8 : oB 8 1 = true := by decide +kernel
set_option maxRecDepth 100000 in
theorem qi_8_0 : iB 8 1 0 = true := by decide +kernel
set_option maxRecDepth 100000 in
theorem qi_8_1 : iB 8 1 1 = true := by decide +kernel
set_option maxRecDepth 100000 in
theorem qr_8_2 : fdB 8 1 2 9 = true := by decide +kernel
set_option maxRecDepth 100000 in
theorem qr_8_3 : fdB 8 1 3 10 = true := by decide +kernel
set_option maxRecDepth 100000 in
theorem qr_8_4 : fdB 8 1 4 11 = true := by decide +kernel
set_option maxRecDepth 100000 in
theorem qr_8_5 : fdB 8 1 5 12 = true := by decide +kernel
set_option maxRecDepth 100000 in
theorem qr_8_6 : fdB 8 1 6 13 = true := by decide +kernel
set_option maxRecDepth 100000 in
theorem qr_8_7 : fdB 8 1 7 14 = true := by decide +kernel
set_option maxRecDepth 100000 in
theorem qr_8_8 : fdB 8 1 8 15 = true := by decide +kernel
set_option maxRecDepth 100000 in
theorem qr_8_9 : fdB 8 1 9 16 = true := by decide +kernel
set_option maxRecDepth 100000 in
theorem qr_8_10 : fdB 8 1 10 17 = true := by decide +kernel
set_option maxRecDepth 100000 in
theorem qi_8_11 : iB 8 1 11 = true := by decide +kernel
set_option maxRecDepth 100000 in
theorem qr_8_12 : fdB 8 1 12 18 = true := by decide +kernel
set_option maxRecDepth 100000 in
theorem qi_8_13 : iB 8 1 13 = true := by decide +kernel
set_option maxRecDepth 100000 in
theorem qr_8_14 : fdB 8 1 14 19 = true := by decide +kernel
set_option maxRecDepth 100000 in
theorem qi_8_15 : iB 8 1 15 = true := by decide +kernel
set_option maxRecDepth 100000 in
theorem qi_8_16 : iB 8 1 16 = true := by decide +kernel
set_option maxRecDepth 100000 in
theorem qi_8_17 : iB 8 1 17 = true := by decide +kernel
set_option maxRecDepth 100000 in
theorem qi_8_18 : iB 8 1 18 = true := by decide +kernel
set_option maxRecDepth 100000 in
theorem qi_8_19 : iB 8 1 19 = true := by decide +kernel
set_option maxRecDepth 100000 in
theorem qw_9 : wB 9 1 256 = true := by decide +kernel
set_option maxRecDepth 100000 in
theorem qw_10 : wB 10 1 256 = true := by decide +kernel
set_option maxRecDepth 100000 in
theorem qw_11 : wB 11 1 256 = true := by decide +kernel
set_option maxRecDepth 100000 in
theorem qw_12 : wB 12 1 256 = true := by decide +kernel
set_option maxRecDepth 100000 in
theorem qw_13 : wB 13 1 256 = true := by decide +kernel
set_option maxRecDepth 100000 in
theorem qw_14 : wB 14 1 256 = true := by decide +kernel
set_option maxRecDepth 100000 in
theorem qw_15 : wB 15 1 256 = true := by decide +kernel
set_option maxRecDepth 100000 in
theorem qw_16 : wB 16 1 256 = true := by decide +kernel
set_option maxRecDepth 100000 in
theorem qw_17 : wB 17 1 9 = true := by decide +kernel
set_option maxRecDepth 100000 in
theorem qz_18 : rrB 18 7 24 20 = true := by decide +kernel
set_option maxRecDepth 100000 in
theorem qz_19 : rrB 19 6 60 21 = true := by decide +kernel
set_option maxRecDepth 100000 in
theorem qo_20 : oB 20 9 = true := by decide +kernel
set_option maxRecDepth 100000 in
theorem qi_20_0 : iB 20 9 0 = true := by decide +kernel
set_option maxRecDepth 100000 in
theorem qi_20_1 : iB 20 9 1 = true := by decide +kernel
set_option maxRecDepth 100000 in
theorem qi_20_2 : iB 20 9 2 = true := by decide +kernel
set_option maxRecDepth 100000 in
theorem qi_20_3 : iB 20 9 3 = true := by decide +kernel
set_option maxRecDepth 100000 in
theorem qi_20_4 : iB 20 9 4 = true := by decide +kernel
set_option maxRecDepth 100000 in
theorem qi_20_5 : iB 20 9 5 = true := by decide +kernel
set_option maxRecDepth 100000 in
theorem qo_21 : oB 21 8 = true := by decide +kernel
set_option maxRecDepth 100000 in
theorem qi_21_0 : iB 21 8 0 = true := by decide +kernel
set_option maxRecDepth 100000 in
theorem qi_21_1 : iB 21 8 1 = true := by decide +kernel
set_option maxRecDepth 100000 in
theorem qi_21_2 : iB 21 8 2 = true := by decide +kernel
set_option maxRecDepth 100000 in
theorem qi_21_3 : iB 21 8 3 = true := by decide +kernel
set_option maxRecDepth 100000 in
theorem qi_21_4 : iB 21 8 4 = true := by decide +kernel
set_option maxRecDepth 100000 in
theorem qo_22 : oB 22 7 = true := by decide +kernel
set_option maxRecDepth 100000 in
theorem qr_22_0 : fdB 22 7 0 23 = true := by decide +kernel
set_option maxRecDepth 100000 in
theorem qr_22_1 : fdB 22 7 1 27 = true := by decide +kernel
set_option maxRecDepth 100000 in
theorem qr_22_2 : fdB 22 7 2 28 = true := by decide +kernel
set_option maxRecDepth 100000 in
theorem qr_22_3 : fdB 22 7 3 28 = true := by decide +kernel
set_option maxRecDepth 100000 in
theorem qr_22_4 : fdB 22 7 4 37 = true := by decide +kernel
set_option maxRecDepth 100000 in
theorem qr_22_5 : fdB 22 7 5 38 = true := by decide +kernel
set_option maxRecDepth 100000 in
theorem qr_22_6 : fdB 22 7 6 40 = true := by decide +kernel
set_option maxRecDepth 100000 in
theorem qr_22_7 : fdB 22 7 7 8 = true := by decide +kernel
set_option maxRecDepth 100000 in
theorem qi_22_8 : iB 22 7 8 = true := by decide +kernel
set_option maxRecDepth 100000 in
theorem qi_22_9 : iB 22 7 9 = true := by decide +kernel
set_option maxRecDepth 100000 in
theorem qi_22_10 : iB 22 7 10 = true := by decide +kernel
set_option maxRecDepth 100000 in
theorem qi_22_11 : iB 22 7 11 = true := by decide +kernel
set_option maxRecDepth 100000 in
theorem qo_23 : oB 23 0 = true := by decide +kernel
set_option maxRecDepth 100000 in
theorem qr_23_0 : fdB 23 0 0 24 = true := by decide +kernel
set_option maxRecDepth 100000 in
theorem qr_23_1 : fdB 23 0 1 25 = true := by decide +kernel
set_option maxRecDepth 100000 in
theorem qr_23_2 : fdB 23 0 2 26 = true := by decide +kernel
set_option maxRecDepth 100000 in
theorem qi_23_3 : iB 23 0 3 = true := by decide +kernel
set_option maxRecDepth 100000 in
theorem qi_23_4 : iB 23 0 4 = true := by decide +kernel
set_option maxRecDepth 100000 in
theorem qw_24 : wB 24 1 256 = true := by decide +kernel
set_option maxRecDepth 100000 in
theorem qw_25 : wB 25 1 256 = true := by decide +kernel
set_option maxRecDepth 100000 in
theorem qw_26 : wB 26 1 2048 = true := by decide +kernel
set_option maxRecDepth 100000 in
theorem qz_27 : rrB 27 5 6 28 = true := by decide +kernel
set_option maxRecDepth 100000 in
theorem qo_28 : oB 28 6 = true := by decide +kernel
set_option maxRecDepth 100000 in
theorem qr_28_0 : fdB 28 6 0 29 = true := by decide +kernel
set_option maxRecDepth 100000 in
theorem qr_28_1 : fdB 28 6 1 30 = true := by decide +kernel
set_option maxRecDepth 100000 in
theorem qr_28_2 : fdB 28 6 2 31 = true := by decide +kernel
set_option maxRecDepth 100000 in
theorem qr_28_3 : fdB 28 6 3 32 = true := by decide +kernel
set_option maxRecDepth 100000 in
theorem qr_28_4 : fdB 28 6 4 33 = true := by decide +kernel
set_option maxRecDepth 100000 in
theorem qr_28_5 : fdB 28 6 5 34 = true := by decide +kernel
set_option maxRecDepth 100000 in
theorem qr_28_6 : fdB 28 6 6 35 = true := by decide +kernel
set_option maxRecDepth 100000 in
theorem qr_28_7 : fdB 28 6 7 36 = true := by decide +kernel
set_option maxRecDepth 100000 in
theorem qi_28_8 : iB 28 6 8 = true := by decide +kernel
set_option maxRecDepth 100000 in
theorem qi_28_9 : iB 28 6 9 = true := by decide +kernel
set_option maxRecDepth 100000 in
theorem qi_28_10 : iB 28 6 10 = true := by decide +kernel
set_option maxRecDepth 100000 in
theorem qi_28_11 : iB 28 6 11 = true := by decide +kernel
set_option maxRecDepth 100000 in
theorem qi_28_12 : iB 28 6 12 = true := by decide +kernel
set_option maxRecDepth 100000 in
theorem qi_28_13 : iB 28 6 13 = true := by decide +kernel
set_option maxRecDepth 100000 in
theorem qw_29 : wB 29 1 16 = true := by decide +kernel
set_option maxRecDepth 100000 in
theorem qw_30 : wB 30 1 16 = true := by decide +kernel
set_option maxRecDepth 100000 in
theorem qw_31 : wB 31 1 16 = true := by decide +kernel
set_option maxRecDepth 100000 in
theorem qw_32 : wB 32 1 16 = true := by decide +kernel
set_option maxRecDepth 100000 in
theorem qw_33 : wB 33 1 16 = true := by decide +kernel
set_option maxRecDepth 100000 in
theorem qw_34 : wB 34 1 96 = true := by decide +kernel
set_option maxRecDepth 100000 in
theorem qw_35 : wB 35 1 96 = true := by decide +kernel
set_option maxRecDepth 100000 in
theorem qw_36 : wB 36 1 96 = true := by decide +kernel
set_option maxRecDepth 100000 in
theorem qw_37 : wB 37 1 1536 = true := by decide +kernel
set_option maxRecDepth 100000 in
theorem qz_38 : rrB 38 8 7 39 = true := by decide +kernel
set_option maxRecDepth 100000 in
theorem qw_39 : wB 39 1 1536 = true := by decide +kernel
set_option maxRecDepth 100000 in
theorem qo_40 : oB 40 8 = true := by decide +kernel
set_option maxRecDepth 100000 in
theorem qi_40_0 : iB 40 8 0 = true := by decide +kernel
set_option maxRecDepth 100000 in
theorem qi_40_1 : iB 40 8 1 = true := by decide +kernel
set_option maxRecDepth 100000 in
theorem qi_40_2 : iB 40 8 2 = true := by decide +kernel
set_option maxRecDepth 100000 in
theorem qi_40_3 : iB 40 8 3 = true := by decide +kernel
set_option maxRecDepth 100000 in
theorem qi_40_4 : iB 40 8 4 = true := by decide +kernel
set_option maxRecDepth 100000 in
theorem qo_41 : oB 41 2 = true := by decide +kernel
set_option maxRecDepth 100000 in
theorem qr_41_0 : fdB 41 2 0 42 = true := by decide +kernel
set_option maxRecDepth 100000 in
theorem qr_41_1 : fdB 41 2 1 43 = true := by decide +kernel
set_option maxRecDepth 100000 in
theorem qr_41_2 : fdB 41 2 2 44 = true := by decide +kernel
set_option maxRecDepth 100000 in
theorem qr_41_3 : fdB 41 2 3 45 = true := by decide +kernel
set_option maxRecDepth 100000 in
theorem qr_41_4 : fdB 41 2 4 22 = true := by decide +kernel
set_option maxRecDepth 100000 in
theorem qw_43 : wB 43 1 256 = true := by decide +kernel
set_option maxRecDepth 100000 in
theorem qw_44 : wB 44 1 256 = true := by decide +kernel
set_option maxRecDepth 100000 in
theorem qz_45 : rrB 45 8 32 43 = true := by decide +kernel
set_option maxRecDepth 100000 in
theorem qo_46 : oB 46 4 = true := by decide +kernel
set_option maxRecDepth 100000 in
theorem qr_46_0 : fdB 46 4 0 47 = true := by decide +kernel
set_option maxRecDepth 100000 in
theorem qr_46_1 : fdB 46 4 1 49 = true := by decide +kernel
set_option maxRecDepth 100000 in
theorem qi_46_2 : iB 46 4 2 = true := by decide +kernel
set_option maxRecDepth 100000 in
theorem qr_46_3 : fdB 46 4 3 50 = true := by decide +kernel
set_option maxRecDepth 100000 in
theorem qi_46_4 : iB 46 4 4 = true := by decide +kernel
set_option maxRecDepth 100000 in
theorem qr_46_5 : fdB 46 4 5 51 = true := by decide +kernel
set_option maxRecDepth 100000 in
theorem qr_46_6 : fdB 46 4 6 52 = true := by decide +kernel
set_option maxRecDepth 100000 in
theorem qr_46_7 : fdB 46 4 7 53 = true := by decide +kernel
set_option maxRecDepth 100000 in
theorem qi_46_8 : iB 46 4 8 = true := by decide +kernel
set_option maxRecDepth 100000 in
theorem qr_46_9 : fdB 46 4 9 54 = true := by decide +kernel
set_option maxRecDepth 100000 in
theorem qr_46_10 : fdB 46 4 10 55 = true := by decide +kernel
set_option maxRecDepth 100000 in
theorem qz_47 : rrB 47 8 5 48 = true := by decide +kernel
set_option maxRecDepth 100000 in
theorem qw_48 : wB 48 1 200 = true := by decide +kernel
set_option maxRecDepth 100000 in
theorem qw_49 : wB 49 1 5 = true := by decide +kernel
set_option maxRecDepth 100000 in
theorem qw_50 : wB 50 1 256 = true := by decide +kernel
set_option maxRecDepth 100000 in
theorem qw_51 : wB 51 1 5 = true := by decide +kernel
set_option maxRecDepth 100000 in
theorem qw_52 : wB 52 1 5 = true := by decide +kernel
set_option maxRecDepth 100000 in
theorem qw_53 : wB 53 1 5 = true := by decide +kernel
set_option maxRecDepth 100000 in
theorem qw_54 : wB 54 1 5 = true := by decide +kernel
set_option maxRecDepth 100000 in
theorem qw_55 : wB 55 1 5 = true := by decide +kernel
set_option maxRecDepth 100000 in
theorem qz_56 : rrB 56 4 3 8 = true := by decide +kernel
set_option maxRecDepth 100000 in
theorem qw_57 : wB 57 3 3 = true := by decide +kernel
set_option maxRecDepth 100000 in
theorem qw_58 : wB 58 1 201 = true := by decide +kernel
set_option maxRecDepth 100000 in
theorem qw_59 : wB 59 1 2 = true := by decide +kernel
set_option maxRecDepth 100000 in
theorem qw_60 : wB 60 1 6 = true := by decide +kernel
set_option maxRecDepth 100000 in
theorem qo_61 : oB 61 11 = true := by decide +kernel
set_option maxRecDepth 100000 in
theorem qi_61_0 : iB 61 11 0 = true := by decide +kernel
set_option maxRecDepth 100000 in
theorem qr_61_1 : fdB 61 11 1 62 = true := by decide +kernel
set_option maxRecDepth 100000 in
theorem qi_61_2 : iB 61 11 2 = true := by decide +kernel
set_option maxRecDepth 100000 in
theorem qi_61_3 : iB 61 11 3 = true := by decide +kernel
set_option maxRecDepth 100000 in
theorem qi_61_4 : iB 61 11 4 = true := by decide +kernel
set_option maxRecDepth 100000 in
theorem qr_61_5 : fdB 61 11 5 63 = true := by decide +kernel
set_option maxRecDepth 100000 in
theorem qr_61_6 : fdB 61 11 6 64 = true := by decide +kernel
set_option maxRecDepth 100000 in
theorem qr_61_7 : fdB 61 11 7 65 = true := by decide +kernel
set_option maxRecDepth 100000 in
theorem qr_61_8 : fdB 61 11 8 66 = true := by decide +kernel
set_option maxRecDepth 100000 in
theorem qr_61_9 : fdB 61 11 9 67 = true := by decide +kernel
set_option maxRecDepth 100000 in
theorem qr_61_10 : fdB 61 11 10 68 = true := by decide +kernel
set_option maxRecDepth 100000 in
theorem qr_61_11 : fdB 61 11 11 69 = true := by decide +kernel
set_option maxRecDepth 100000 in
theorem qr_61_12 : fdB 61 11 12 70 = true := by decide +kernel
set_option maxRecDepth 100000 in
theorem qr_61_13 : fdB 61 11 13 71 = true := by decide +kernel
set_option maxRecDepth 100000 in
theorem qr_61_14 : fdB 61 11 14 72 = true := by decide +kernel
set_option maxRecDepth 100000 in
theorem qr_61_15 : fdB 61 11 15 73 = true := by decide +kernel
set_option maxRecDepth 100000 in
theorem qr_61_16 : fdB 61 11 16 74 = true := by decide +kernel
set_option maxRecDepth 100000 in
theorem qr_61_17 : fdB 61 11 17 75 = true := by decide +kernel
set_option maxRecDepth 100000 in
theorem qr_61_18 : fdB 61 11 18 76 = true := by decide +kernel
set_option maxRecDepth 100000 in
theorem qi_61_19 : iB 61 11 19 = true := by decide +kernel
set_option maxRecDepth 100000 in
theorem qi_61_20 : iB 61 11 20 = true := by decide +kernel
set_option maxRecDepth 100000 in
theorem qi_61_21 : iB 61 11 21 = true := by decide +kernel
set_option maxRecDepth 100000 in
theorem qi_61_22 : iB 61 11 22 = true := by decide +kernel
set_option maxRecDepth 100000 in
theorem qi_61_23 : iB 61 11 23 = true := by decide +kernel
set_option maxRecDepth 100000 in
theorem qi_61_24 : iB 61 11 24 = true := by decide +kernel
set_option maxRecDepth 100000 in
theorem qi_61_25 : iB 61 11 25 = true := by decide +kernel
set_option maxRecDepth 100000 in
theorem qi_61_26 : iB 61 11 26 = true := by decide +kernel
set_option maxRecDepth 100000 in
theorem qi_61_27 : iB 61 11 27 = true := by decide +kernel
set_option maxRecDepth 100000 in
theorem qi_61_28 : iB 61 11 28 = true := by decide +kernel
set_option maxRecDepth 100000 in
theorem qi_61_29 : iB 61 11 29 = true := by decide +kernel
set_option maxRecDepth 100000 in
theorem qi_61_30 : iB 61 11 30 = true := by decide +kernel
set_option maxRecDepth 100000 in
theorem ql_61_31 : lB 61 11 31 = true := by decide +kernel
set_option maxRecDepth 100000 in
theorem qi_61_32 : iB 61 11 32 = true := by decide +kernel
set_option maxRecDepth 100000 in
theorem qr_61_33 : fdB 61 11 33 77 = true := by decide +kernel
set_option maxRecDepth 100000 in
theorem qi_61_34 : iB 61 11 34 = true := by decide +kernel
set_option maxRecDepth 100000 in
theorem qi_61_35 : iB 61 11 35 = true := by decide +kernel
set_option maxRecDepth 100000 in
theorem qi_61_36 : iB 61 11 36 = true := by decide +kernel
set_option maxRecDepth 100000 in
theorem qi_61_37 : iB 61 11 37 = true := by decide +kernel
set_option maxRecDepth 100000 in
theorem qi_61_38 : iB 61 11 38 = true := by decide +kernel
set_option maxRecDepth 100000 in
theorem qi_61_39 : iB 61 11 39 = true := by decide +kernel
set_option maxRecDepth 100000 in
theorem qi_61_40 : iB 61 11 40 = true := by decide +kernel
set_option maxRecDepth 100000 in
theorem qi_61_41 : iB 61 11 41 = true := by decide +kernel
set_option maxRecDepth 100000 in
theorem qi_61_42 : iB 61 11 42 = true := by decide +kernel
set_option maxRecDepth 100000 in
theorem qr_61_43 : fdB 61 11 43 78 = true := by decide +kernel
set_option maxRecDepth 100000 in
theorem qr_61_44 : fdB 61 11 44 79 = true := by decide +kernel
set_option maxRecDepth 100000 in
theorem qr_61_45 : fdB 61 11 45 80 = true := by decide +kernel
set_option maxRecDepth 100000 in
theorem qr_61_46 : fdB 61 11 46 81 = true := by decide +kernel
set_option maxRecDepth 100000 in
theorem qr_61_47 : fdB 61 11 47 82 = true := by decide +kernel
set_option maxRecDepth 100000 in
theorem qr_61_48 : fdB 61 11 48 83 = true := by decide +kernel
set_option maxRecDepth 100000 in
theorem qi_61_49 : iB 61 11 49 = true := by decide +kernel
set_option maxRecDepth 100000 in
theorem qi_61_50 : iB 61 11 50 = true := by decide +kernel
set_option maxRecDepth 100000 in
theorem qi_61_51 : iB 61 11 51 = true := by decide +kernel
set_option maxRecDepth 100000 in
theorem qr_61_52 : fdB 61 11 52 84 = true := by decide +kernel
set_option maxRecDepth 100000 in
theorem qi_61_53 : iB 61 11 53 = true := by decide +kernel
set_option maxRecDepth 100000 in
theorem qr_61_54 : fdB 61 11 54 85 = true := by decide +kernel
set_option maxRecDepth 100000 in
theorem qr_61_55 : fdB 61 11 55 86 = true := by decide +kernel
set_option maxRecDepth 100000 in
theorem qr_61_56 : fdB 61 11 56 87 = true := by decide +kernel
set_option maxRecDepth 100000 in
theorem qr_61_57 : fdB 61 11 57 88 = true := by decide +kernel
set_option maxRecDepth 100000 in
theorem qr_61_58 : fdB 61 11 58 89 = true := by decide +kernel
set_option maxRecDepth 100000 in
theorem qr_61_59 : fdB 61 11 59 90 = true := by decide +kernel
set_option maxRecDepth 100000 in
theorem qi_61_60 : iB 61 11 60 = true := by decide +kernel
set_option maxRecDepth 100000 in
theorem qi_61_61 : iB 61 11 61 = true := by decide +kernel
set_option maxRecDepth 100000 in
theorem qi_61_62 : iB 61 11 62 = true := by decide +kernel
set_option maxRecDepth 100000 in
theorem qw_62 : wB 62 0 440 = true := by decide +kernel
set_option maxRecDepth 100000 in
theorem qw_63 : wB 63 1 2314 = true := by decide +kernel
set_option maxRecDepth 100000 in
theorem qw_64 : wB 64 1 6942 = true := by decide +kernel
set_option maxRecDepth 100000 in
theorem qw_65 : wB 65 1 2314 = true := by decide +kernel
set_option maxRecDepth 100000 in
theorem qw_66 : wB 66 3 3 = true := by decide +kernel
set_option maxRecDepth 100000 in
theorem qw_67 : wB 67 1 8 = true := by decide +kernel
set_option maxRecDepth 100000 in
theorem qw_68 : wB 68 1 128 = true := by decide +kernel
set_option maxRecDepth 100000 in
theorem qw_69 : wB 69 1 128 = true := by decide +kernel
set_option maxRecDepth 100000 in
theorem qw_70 : wB 70 1 128 = true := by decide +kernel
set_option maxRecDepth 100000 in
theorem qw_71 : wB 71 1 128 = true := by decide +kernel
set_option maxRecDepth 100000 in
theorem qw_72 : wB 72 1 128 = true := by decide +kernel
set_option maxRecDepth 100000 in
theorem qw_73 : wB 73 1 1600 = true := by decide +kernel
set_option maxRecDepth 100000 in
theorem qw_74 : wB 74 1 1600 = true := by decide +kernel
set_option maxRecDepth 100000 in
theorem qw_75 : wB 75 1 1600 = true := by decide +kernel
set_option maxRecDepth 100000 in
theorem qw_76 : wB 76 1 100 = true := by decide +kernel
set_option maxRecDepth 100000 in
theorem qw_77 : wB 77 3 60 = true := by decide +kernel
set_option maxRecDepth 100000 in
theorem qw_78 : wB 78 3 256 = true := by decide +kernel
set_option maxRecDepth 100000 in
theorem qw_79 : wB 79 3 256 = true := by decide +kernel
set_option maxRecDepth 100000 in
theorem qw_80 : wB 80 3 256 = true := by decide +kernel
set_option maxRecDepth 100000 in
theorem qw_81 : wB 81 3 256 = true := by decide +kernel
set_option maxRecDepth 100000 in
theorem qw_82 : wB 82 1 16384 = true := by decide +kernel
set_option maxRecDepth 100000 in
theorem qw_83 : wB 83 1 256 = true := by decide +kernel
set_option maxRecDepth 100000 in
theorem qw_84 : wB 84 1 2 = true := by decide +kernel
set_option maxRecDepth 100000 in
theorem qw_85 : wB 85 1 201 = true := by decide +kernel
set_option maxRecDepth 100000 in
theorem qw_86 : wB 86 1 201 = true := by decide +kernel
set_option maxRecDepth 100000 in
theorem qw_87 : wB 87 1 1280 = true := by decide +kernel
set_option maxRecDepth 100000 in
theorem qw_88 : wB 88 1 5 = true := by decide +kernel
set_option maxRecDepth 100000 in
theorem qw_89 : wB 89 1 5 = true := by decide +kernel
set_option maxRecDepth 100000 in
theorem qw_90 : wB 90 1 5 = true := by decide +kernel
set_option maxRecDepth 100000 in
theorem qk_3_8 : kB 3 3 8 = true := by decide +kernel
set_option maxRecDepth 100000 in
theorem qb_3_8 : rB 3 3 8 28 = true := by decide +kernel
theorem SQ.kr_3_8 {M : Mem} {r : Nat} (h : SQ M) (hr : gNth sT r = some 28) : SQ (wR M 3 8 r) := h.kr qa_3 qb_3_8 hr (by decide) (by decide)
set_option maxRecDepth 100000 in
theorem qk_22_2 : kB 22 7 2 = true := by decide +kernel
set_option maxRecDepth 100000 in
theorem qb_22_2 : rB 22 7 2 28 = true := by decide +kernel
theorem SQ.kr_22_2 {M : Mem} {r : Nat} (h : SQ M) (hr : gNth sT r = some 28) : SQ (wR M 104 2 r) := h.kr qa_104 qb_22_2 hr (by decide) (by decide)
set_option maxRecDepth 100000 in
theorem qk_22_3 : kB 22 7 3 = true := by decide +kernel
set_option maxRecDepth 100000 in
theorem qb_22_3 : rB 22 7 3 28 = true := by decide +kernel
theorem SQ.kr_22_3 {M : Mem} {r : Nat} (h : SQ M) (hr : gNth sT r = some 28) : SQ (wR M 104 3 r) := h.kr qa_104 qb_22_3 hr (by decide) (by decide)
set_option maxRecDepth 100000 in
theorem qk_22_7 : kB 22 7 7 = true := by decide +kernel
set_option maxRecDepth 100000 in
theorem qb_22_7 : rB 22 7 7 8 = true := by decide +kernel
theorem SQ.kr_22_7 {M : Mem} {r : Nat} (h : SQ M) (hr : gNth sT r = some 8) : SQ (wR M 104 7 r) := h.kr qa_104 qb_22_7 hr (by decide) (by decide)
set_option maxRecDepth 100000 in
theorem tx_m : ∀ t, t < 664 → gNth sT t = some 28 → t ∈ fxT := by decide +kernel
set_option maxRecDepth 100000 in
theorem tl_m : ∀ t, t < 664 → gNth sT t = some 8 → t ∈ fxA := by decide +kernel
set_option maxRecDepth 100000 in
theorem sT_ln : sT.length = 664 := by decide +kernel
theorem tx_mem {t : Nat} (h : gNth sT t = some 28) : t ∈ fxT := tx_m t (by have h1 := gNth_lt _ _ _ h; rw [sT_ln] at h1; exact h1) h
theorem tl_mem {t : Nat} (h : gNth sT t = some 8) : t ∈ fxA := tl_m t (by have h1 := gNth_lt _ _ _ h; rw [sT_ln] at h1; exact h1) h
set_option maxRecDepth 100000 in
theorem tx_n0 : ∀ t ∈ fxT, gNth sT (t + 1) = some 29 := by decide +kernel
theorem fx_g0 {t : Nat} (h : gNth sT t = some 28) : gNth sT (t + 1) = some 29 := tx_n0 t (tx_mem h)
theorem fx_t0 {M : Mem} {t : Nat} (hS : SQ M) (h : gNth sT t = some 28) : fV M t 0 = some (.ref (t + 1)) := hS.2.1 t (tx_mem h) 0 (by decide)
set_option maxRecDepth 100000 in
theorem tx_n1 : ∀ t ∈ fxT, gNth sT (t + 2) = some 30 := by decide +kernel
theorem fx_g1 {t : Nat} (h : gNth sT t = some 28) : gNth sT (t + 2) = some 30 := tx_n1 t (tx_mem h)
theorem fx_t1 {M : Mem} {t : Nat} (hS : SQ M) (h : gNth sT t = some 28) : fV M t 1 = some (.ref (t + 2)) := hS.2.1 t (tx_mem h) 1 (by decide)
set_option maxRecDepth 100000 in
theorem tx_n2 : ∀ t ∈ fxT, gNth sT (t + 3) = some 31 := by decide +kernel
theorem fx_g2 {t : Nat} (h : gNth sT t = some 28) : gNth sT (t + 3) = some 31 := tx_n2 t (tx_mem h)
theorem fx_t2 {M : Mem} {t : Nat} (hS : SQ M) (h : gNth sT t = some 28) : fV M t 2 = some (.ref (t + 3)) := hS.2.1 t (tx_mem h) 2 (by decide)
set_option maxRecDepth 100000 in
theorem tx_n3 : ∀ t ∈ fxT, gNth sT (t + 4) = some 32 := by decide +kernel
theorem fx_g3 {t : Nat} (h : gNth sT t = some 28) : gNth sT (t + 4) = some 32 := tx_n3 t (tx_mem h)
theorem fx_t3 {M : Mem} {t : Nat} (hS : SQ M) (h : gNth sT t = some 28) : fV M t 3 = some (.ref (t + 4)) := hS.2.1 t (tx_mem h) 3 (by decide)
set_option maxRecDepth 100000 in
theorem tx_n4 : ∀ t ∈ fxT, gNth sT (t + 5) = some 33 := by decide +kernel
theorem fx_g4 {t : Nat} (h : gNth sT t = some 28) : gNth sT (t + 5) = some 33 := tx_n4 t (tx_mem h)
theorem fx_t4 {M : Mem} {t : Nat} (hS : SQ M) (h : gNth sT t = some 28) : fV M t 4 = some (.ref (t + 5)) := hS.2.1 t (tx_mem h) 4 (by decide)
set_option maxRecDepth 100000 in
theorem tx_n5 : ∀ t ∈ fxT, gNth sT (t + 6) = some 34 := by decide +kernel
theorem fx_g5 {t : Nat} (h : gNth sT t = some 28) : gNth sT (t + 6) = some 34 := tx_n5 t (tx_mem h)
theorem fx_t5 {M : Mem} {t : Nat} (hS : SQ M) (h : gNth sT t = some 28) : fV M t 5 = some (.ref (t + 6)) := hS.2.1 t (tx_mem h) 5 (by decide)
set_option maxRecDepth 100000 in
theorem tx_n6 : ∀ t ∈ fxT, gNth sT (t + 7) = some 35 := by decide +kernel
theorem fx_g6 {t : Nat} (h : gNth sT t = some 28) : gNth sT (t + 7) = some 35 := tx_n6 t (tx_mem h)
theorem fx_t6 {M : Mem} {t : Nat} (hS : SQ M) (h : gNth sT t = some 28) : fV M t 6 = some (.ref (t + 7)) := hS.2.1 t (tx_mem h) 6 (by decide)
set_option maxRecDepth 100000 in
theorem tx_n7 : ∀ t ∈ fxT, gNth sT (t + 8) = some 36 := by decide +kernel
theorem fx_g7 {t : Nat} (h : gNth sT t = some 28) : gNth sT (t + 8) = some 36 := tx_n7 t (tx_mem h)
theorem fx_t7 {M : Mem} {t : Nat} (hS : SQ M) (h : gNth sT t = some 28) : fV M t 7 = some (.ref (t + 8)) := hS.2.1 t (tx_mem h) 7 (by decide)
set_option maxRecDepth 100000 in
theorem tl_n2 : ∀ t ∈ fxA, gNth sT (t + 1) = some 9 := by decide +kernel
theorem fx_h2 {t : Nat} (h : gNth sT t = some 8) : gNth sT (t + 1) = some 9 := tl_n2 t (tl_mem h)
theorem fx_l2 {M : Mem} {t : Nat} (hS : SQ M) (h : gNth sT t = some 8) : fV M t 2 = some (.ref (t + 1)) := (hS.2.2 t (tl_mem h)).1 0 (by decide)
set_option maxRecDepth 100000 in
theorem tl_n3 : ∀ t ∈ fxA, gNth sT (t + 2) = some 10 := by decide +kernel
theorem fx_h3 {t : Nat} (h : gNth sT t = some 8) : gNth sT (t + 2) = some 10 := tl_n3 t (tl_mem h)
theorem fx_l3 {M : Mem} {t : Nat} (hS : SQ M) (h : gNth sT t = some 8) : fV M t 3 = some (.ref (t + 2)) := (hS.2.2 t (tl_mem h)).1 1 (by decide)
set_option maxRecDepth 100000 in
theorem tl_n4 : ∀ t ∈ fxA, gNth sT (t + 3) = some 11 := by decide +kernel
theorem fx_h4 {t : Nat} (h : gNth sT t = some 8) : gNth sT (t + 3) = some 11 := tl_n4 t (tl_mem h)
theorem fx_l4 {M : Mem} {t : Nat} (hS : SQ M) (h : gNth sT t = some 8) : fV M t 4 = some (.ref (t + 3)) := (hS.2.2 t (tl_mem h)).1 2 (by decide)
set_option maxRecDepth 100000 in
theorem tl_n5 : ∀ t ∈ fxA, gNth sT (t + 4) = some 12 := by decide +kernel
theorem fx_h5 {t : Nat} (h : gNth sT t = some 8) : gNth sT (t + 4) = some 12 := tl_n5 t (tl_mem h)
theorem fx_l5 {M : Mem} {t : Nat} (hS : SQ M) (h : gNth sT t = some 8) : fV M t 5 = some (.ref (t + 4)) := (hS.2.2 t (tl_mem h)).1 3 (by decide)
set_option maxRecDepth 100000 in
theorem tl_n6 : ∀ t ∈ fxA, gNth sT (t + 5) = some 13 := by decide +kernel
theorem fx_h6 {t : Nat} (h : gNth sT t = some 8) : gNth sT (t + 5) = some 13 := tl_n6 t (tl_mem h)
theorem fx_l6 {M : Mem} {t : Nat} (hS : SQ M) (h : gNth sT t = some 8) : fV M t 6 = some (.ref (t + 5)) := (hS.2.2 t (tl_mem h)).1 4 (by decide)
set_option maxRecDepth 100000 in
theorem tl_n7 : ∀ t ∈ fxA, gNth sT (t + 6) = some 14 := by decide +kernel
theorem fx_h7 {t : Nat} (h : gNth sT t = some 8) : gNth sT (t + 6) = some 14 := tl_n7 t (tl_mem h)
theorem fx_l7 {M : Mem} {t : Nat} (hS : SQ M) (h : gNth sT t = some 8) : fV M t 7 = some (.ref (t + 6)) := (hS.2.2 t (tl_mem h)).1 5 (by decide)
set_option maxRecDepth 100000 in
theorem tl_n8 : ∀ t ∈ fxA, gNth sT (t + 7) = some 15 := by decide +kernel
theorem fx_h8 {t : Nat} (h : gNth sT t = some 8) : gNth sT (t + 7) = some 15 := tl_n8 t (tl_mem h)
theorem fx_l8 {M : Mem} {t : Nat} (hS : SQ M) (h : gNth sT t = some 8) : fV M t 8 = some (.ref (t + 7)) := (hS.2.2 t (tl_mem h)).1 6 (by decide)
set_option maxRecDepth 100000 in
theorem tl_n9 : ∀ t ∈ fxA, gNth sT (t + 8) = some 16 := by decide +kernel
theorem fx_h9 {t : Nat} (h : gNth sT t = some 8) : gNth sT (t + 8) = some 16 := tl_n9 t (tl_mem h)
theorem fx_l9 {M : Mem} {t : Nat} (hS : SQ M) (h : gNth sT t = some 8) : fV M t 9 = some (.ref (t + 8)) := (hS.2.2 t (tl_mem h)).1 7 (by decide)
set_option maxRecDepth 100000 in
theorem tl_n10 : ∀ t ∈ fxA, gNth sT (t + 9) = some 17 := by decide +kernel
theorem fx_h10 {t : Nat} (h : gNth sT t = some 8) : gNth sT (t + 9) = some 17 := tl_n10 t (tl_mem h)
theorem fx_l10 {M : Mem} {t : Nat} (hS : SQ M) (h : gNth sT t = some 8) : fV M t 10 = some (.ref (t + 9)) := (hS.2.2 t (tl_mem h)).2.1
set_option maxRecDepth 100000 in
theorem tl_n12 : ∀ t ∈ fxA, gNth sT (t + 10) = some 18 := by decide +kernel
theorem fx_h12 {t : Nat} (h : gNth sT t = some 8) : gNth sT (t + 10) = some 18 := tl_n12 t (tl_mem h)
theorem fx_l12 {M : Mem} {t : Nat} (hS : SQ M) (h : gNth sT t = some 8) : fV M t 12 = some (.ref (t + 10)) := (hS.2.2 t (tl_mem h)).2.2.1
set_option maxRecDepth 100000 in
theorem tl_n14 : ∀ t ∈ fxA, gNth sT (t + 11) = some 19 := by decide +kernel
theorem fx_h14 {t : Nat} (h : gNth sT t = some 8) : gNth sT (t + 11) = some 19 := tl_n14 t (tl_mem h)
theorem fx_l14 {M : Mem} {t : Nat} (hS : SQ M) (h : gNth sT t = some 8) : fV M t 14 = some (.ref (t + 11)) := (hS.2.2 t (tl_mem h)).2.2.2
