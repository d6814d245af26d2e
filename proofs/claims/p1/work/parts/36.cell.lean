/-! The law's cell: the class's method answers, or throws; the law catches -/
def mTc : List (Nat × Nat × Instr) := [(0, 1, .aload_n 0), (1, 1, .iload_n 1), (2, 7, .invokevirtual 113), (5, 2, .ifCond .eq 13), (8, 1, .iload_n 2), (9, 0, .iconst 0), (10, 0, .bipush 8), (12, 7, .invokestatic 103), (15, 2, .ifCond .ne 13), (28, 1, .iload_n 2), (29, 2, .tableswitch 131 0 7 #[47, 57, 67, 77, 87, 97, 107, 117]), (76, 1, .aload_n 0), (77, 3, .getfield 28), (80, 3, .getfield 214), (83, 1, .iload_n 1), (84, 3, .iaload), (85, 6, .ireturn), (86, 1, .aload_n 0), (87, 3, .getfield 28), (90, 3, .getfield 249), (93, 1, .iload_n 1), (94, 3, .iaload), (95, 6, .ireturn), (96, 1, .aload_n 0), (97, 3, .getfield 28), (100, 3, .getfield 252), (103, 1, .iload_n 1), (104, 3, .iaload), (105, 6, .ireturn), (106, 1, .aload_n 0), (107, 3, .getfield 28), (110, 3, .getfield 255), (113, 1, .iload_n 1), (114, 3, .iaload), (115, 6, .ireturn), (116, 1, .aload_n 0), (117, 3, .getfield 28), (120, 3, .getfield 217), (123, 1, .iload_n 1), (124, 3, .iaload), (125, 6, .ireturn), (126, 1, .aload_n 0), (127, 3, .getfield 28), (130, 3, .getfield 258), (133, 1, .iload_n 1), (134, 3, .iaload), (135, 6, .ireturn), (136, 1, .aload_n 0), (137, 3, .getfield 28), (140, 3, .getfield 226), (143, 1, .iload_n 1), (144, 3, .iaload), (145, 6, .ireturn), (146, 1, .aload_n 0), (147, 1, .iload_n 1), (148, 7, .invokevirtual 261), (151, 2, .ifCond .eq 7), (154, 0, .iconst 1), (155, 2, .goto 4), (158, 0, .iconst 0), (159, 6, .ireturn), (160, 1, .aload_n 0), (161, 1, .iload_n 1), (162, 7, .invokevirtual 261), (165, 2, .ifCond .eq 29), (168, 1, .aload_n 0), (169, 3, .getfield 28), (172, 3, .getfield 217), (175, 1, .iload_n 1), (176, 3, .iaload), (177, 1, .aload_n 0), (178, 3, .getfield 37), (181, 3, .getfield 134), (184, 3, .getfield 264), (187, 2, .if_icmp .lt 7), (190, 0, .iconst 1), (191, 2, .goto 4), (194, 0, .iconst 0), (195, 6, .ireturn)]
def mTl : List (Nat × Nat × Instr) := [(0, 1, .aload_n 3), (1, 0, .iconst 0), (2, 1, .aload_n 0), (3, 1, .iload_n 1), (4, 1, .iload_n 2), (5, 7, .invokevirtual 7), (8, 0, .i2l), (9, 4, .lastore), (10, 2, .goto 7), (15, 0, .iconst 1), (16, 6, .ireturn), (17, 0, .iconst 0), (18, 6, .ireturn)]
set_option maxRecDepth 100000 in
theorem ck_c : mTc.all (ckD cX10_cell) = true := by decide +kernel
set_option maxRecDepth 100000 in
theorem ck_l : mTl.all (ckD cL_cell) = true := by decide +kernel
/-- what the throw asks of the tables -/
def exL : List Cond := (exA RX10 246).filter vx_no
def BXs : List Cond := (exL).filter (fun w => !goodWord w)
theorem w_in {w : Cond} (h : w ∈ lw_tbl) (g : goodWord w = true) : w ∈ W0 := List.mem_filter.mpr ⟨h, g⟩
set_option maxRecDepth 100000 in
theorem ew_x : ∀ w ∈ (exL).filter goodWord, w ∈ lw_tbl := by decide +kernel
set_option maxRecDepth 100000 in
theorem ew_b : ∀ w ∈ BXs, w ∈ lw_tbl := by decide +kernel
theorem ew_bs : BXs.all (fun w => match w with
  | .declares _ => true
  | .castable _ _ => true
  | _ => false) = true := by decide +kernel
theorem ew_g : ∀ w ∈ Cond.classLink RX10 242 exN :: Cond.initialized exN :: exL, vx_ot w = true := by decide +kernel
theorem ew_c : Cond.castable exN exN ∈ BXs := by decide +kernel
set_option maxRecDepth 100000 in
theorem ew_l : ∀ w ∈ [Cond.codeWith yL_cell cL_cell 5 (some .int) [(0, 10, 13, 13)], Cond.methodLink RL 80 yL_cell, Cond.static yL_cell, Cond.initialized RL, Cond.classLink RL 13 exN, Cond.methodLink RL 7 yX10_cell, Cond.instanceMethod yX10_cell, Cond.selects RX10 yX10_cell yX10_cell, Cond.initialized RX10, Cond.code yX10_cell cX10_cell 3 (some .int), Cond.classLink RX10 242 exN, Cond.initialized exN], w ∈ lw_tbl := by decide +kernel
theorem ew_lg : ∀ w ∈ [Cond.codeWith yL_cell cL_cell 5 (some .int) [(0, 10, 13, 13)], Cond.methodLink RL 80 yL_cell, Cond.static yL_cell, Cond.initialized RL, Cond.classLink RL 13 exN, Cond.methodLink RL 7 yX10_cell, Cond.instanceMethod yX10_cell, Cond.selects RX10 yX10_cell yX10_cell, Cond.initialized RX10, Cond.code yX10_cell cX10_cell 3 (some .int), Cond.classLink RX10 242 exN, Cond.initialized exN], goodWord w = true := by decide +kernel
theorem ew_1 : Cond.codeWith yL_cell cL_cell 5 (some .int) [(0, 10, 13, 13)] ∈ W0 := w_in (ew_l _ (List.mem_of_getElem? (i := 0) rfl)) (ew_lg _ (List.mem_of_getElem? (i := 0) rfl))
theorem ew_2 : Cond.methodLink RL 80 yL_cell ∈ W0 := w_in (ew_l _ (List.mem_of_getElem? (i := 1) rfl)) (ew_lg _ (List.mem_of_getElem? (i := 1) rfl))
theorem ew_3 : Cond.static yL_cell ∈ W0 := w_in (ew_l _ (List.mem_of_getElem? (i := 2) rfl)) (ew_lg _ (List.mem_of_getElem? (i := 2) rfl))
theorem ew_4 : Cond.initialized RL ∈ W0 := w_in (ew_l _ (List.mem_of_getElem? (i := 3) rfl)) (ew_lg _ (List.mem_of_getElem? (i := 3) rfl))
theorem ew_5 : Cond.classLink RL 13 exN ∈ W0 := w_in (ew_l _ (List.mem_of_getElem? (i := 4) rfl)) (ew_lg _ (List.mem_of_getElem? (i := 4) rfl))
theorem ew_6 : Cond.methodLink RL 7 yX10_cell ∈ W0 := w_in (ew_l _ (List.mem_of_getElem? (i := 5) rfl)) (ew_lg _ (List.mem_of_getElem? (i := 5) rfl))
theorem ew_7 : Cond.instanceMethod yX10_cell ∈ W0 := w_in (ew_l _ (List.mem_of_getElem? (i := 6) rfl)) (ew_lg _ (List.mem_of_getElem? (i := 6) rfl))
theorem ew_8 : Cond.selects RX10 yX10_cell yX10_cell ∈ W0 := w_in (ew_l _ (List.mem_of_getElem? (i := 7) rfl)) (ew_lg _ (List.mem_of_getElem? (i := 7) rfl))
theorem ew_9 : Cond.initialized RX10 ∈ W0 := w_in (ew_l _ (List.mem_of_getElem? (i := 8) rfl)) (ew_lg _ (List.mem_of_getElem? (i := 8) rfl))
theorem ew_10 : Cond.code yX10_cell cX10_cell 3 (some .int) ∈ W0 := w_in (ew_l _ (List.mem_of_getElem? (i := 9) rfl)) (ew_lg _ (List.mem_of_getElem? (i := 9) rfl))
theorem ew_11 : Cond.classLink RX10 242 exN ∈ W0 := w_in (ew_l _ (List.mem_of_getElem? (i := 10) rfl)) (ew_lg _ (List.mem_of_getElem? (i := 10) rfl))
theorem ew_12 : Cond.initialized exN ∈ W0 := w_in (ew_l _ (List.mem_of_getElem? (i := 11) rfl)) (ew_lg _ (List.mem_of_getElem? (i := 11) rfl))
/-- what a throw needs besides the words -/
def Xtr (B : Nat) (U : State) : Prop := vx_Zq Bundle.tN "UNASSIGNED_STACK" Bundle.steD (fun q => B ≤ q) U U.heap ∧ vx_Zq Bundle.tN "SUPPRESSED_SENTINEL" Bundle.listD (fun q => B ≤ q) U U.heap ∧ (∃ q : Nat, vk_R RX10 244 exTx q U) ∧ ∀ w ∈ BXs, va_Nw w U
theorem Xtr.next {B : Nat} {s U : State} (h : Xtr B s) (hW : s.WarmedH U.vm) (hq : ∀ a : Nat, a < B → U.heap[a]? = s.heap[a]?) : Xtr B U := by
  obtain ⟨h1, h2, ⟨q, h3⟩, h4⟩ := h
  refine ⟨vx_Zq.moved hW.alike (h1.kept (fun a _ hA => hq a (Nat.lt_of_not_le hA))), vx_Zq.moved hW.alike (h2.kept (fun a _ hA => hq a (Nat.lt_of_not_le hA))), ⟨q, vk_R.warm hW h3⟩, fun w hw => ?_⟩
  have hs := List.all_eq_true.mp ew_bs w hw
  have hn := h4 w hw
  cases w <;> first | exact va_Nw.warmD hW hn | exact va_Nw.warmC hW hn | cases hs
theorem bx_ot : ∀ w ∈ BXs, w.onTables = true := by decide +kernel
theorem Xtr.blind {B : Nat} {U : State} (a : Array Value) (g : JFrame) (mk : MethodId) (h : Xtr B U) : Xtr B (U.calling g mk a) := by
  obtain ⟨h1, h2, ⟨q, h3⟩, h4⟩ := h
  exact ⟨vx_Zq.moved (u := U) (U := U.calling g mk a) (Vm.Alike.refl U.vm) h1, vx_Zq.moved (u := U) (U := U.calling g mk a) (Vm.Alike.refl U.vm) h2, ⟨q, vk_R.same (u := U) (U := U.calling g mk a) rfl h3⟩, fun w hw => va_Nw.same (u := U) (U := U.calling g mk a) (bx_ot w hw) rfl (h4 w hw)⟩
def PcX (B : Nat) (sa : Nat → Nat) (cy : Nat → ClassId) (dC : Nat → ClassId) (dI : Nat → Nat → Nat) (SA : Sta) (as : List Value) (M : Mem) : Array Value → State → Prop := fun a U => Pcw B sa cy dC dI SA as M a U ∧ Xtr B U
theorem pcx_blind {B : Nat} {sa : Nat → Nat} {cy : Nat → ClassId} {dC : Nat → ClassId} {dI : Nat → Nat → Nat} {SA : Sta} {as : List Value} {M : Mem} : FrameBlind (PcX B sa cy dC dI SA as M) := fun a U g mk h => ⟨pc_blind a U g mk h.1, h.2.blind a g mk⟩
theorem x_hat {B : Nat} {s : State} {args : Array Value} (hts : ∀ w ∈ W0, w.before args s = true) (hX : Xtr B s) : ∀ w ∈ exL, w.before args s = true :=
  vx_hat (B := BXs) (fun w hw => hts w (w_in (ew_x w hw) (List.mem_filter.mp hw).2)) (fun w h => h) (fun w hw => va_Nw.use (bx_ot w hw) (hX.2.2.2 w hw))
theorem d_c18 : decode cX10_cell 18 = .ok (.new 242, 3) := by decide +kernel
theorem d_c21 : decode cX10_cell 21 = .ok (.dup, 1) := by decide +kernel
theorem d_c22 : decode cX10_cell 22 = .ok (.ldc 244, 2) := by decide +kernel
theorem d_c24 : decode cX10_cell 24 = .ok (.invokespecial 246, 3) := by decide +kernel
theorem d_c27 : decode cX10_cell 27 = .ok (.athrow, 1) := by decide +kernel
theorem d_l5 : decode cL_cell 5 = .ok (.invokevirtual 7, 3) := by decide +kernel
theorem d_l13 : decode cL_cell 13 = .ok (.astore 4, 2) := by decide +kernel
theorem d_l15 : decode cL_cell 15 = .ok (.iconst 1, 1) := by decide +kernel
theorem d_l16 : decode cL_cell 16 = .ok (.ireturn, 1) := by decide +kernel
/-- the new object as a cell of the memory -/
theorem exc_world {B : Nat} {sa : Nat → Nat} {cy : Nat → ClassId} {dC : Nat → ClassId} {dI : Nat → Nat → Nat} {SA : Sta} {s t : State} {H : Heap} {M : Mem} (hI : Inv B sa cy dC dI SA s) (hP : va_P (dC, dI) gCL (wd B sa cy M) H) (hH : H.size = B + M.length) (hz : t.heap.size = H.size + 1) (hq : ∀ q : Nat, q < H.size → t.heap[q]? = H[q]?) (hc : ∃ ce : Cell, t.heap[H.size]? = some ce ∧ ce.vm = .none ∧ s.vm.findClass exN = some ce.cls) : Bw B sa cy dC dI (M ++ [.inr (12, [])]) t := by
  refine ⟨by rw [hz, hH, List.length_append]; rfl, fun k q hk => ?_⟩
  rw [← wd_app] at hk
  have hlen : (wd B sa cy M).length = M.length := by rw [wd, List.length_mapIdx]
  by_cases h : k < M.length
  · rw [List.getElem?_append_left (by omega)] at hk
    exact (hP k q hk).kept (hq _ (hP k q hk).lt)
  · rw [List.getElem?_append_right (by omega)] at hk
    have hk0 : k - (wd B sa cy M).length = 0 := by
      have := (List.getElem?_eq_some_iff.mp hk).1
      simpa using this
    rw [hk0] at hk
    cases hk
    obtain ⟨ce, h1, h2, h3⟩ := hc
    have hcl := (hI.1.1 12 _ rfl).2.1
    refine ⟨_, rfl, ce, ?_, ?_, h2, fun j hj => absurd hj (Nat.not_lt_zero j)⟩
    · show t.heap[B + M.length]? = some ce
      rw [← hH]
      exact h1
    · exact Option.some.inj (h3.symm.trans hcl)
section CEL
variable {l : Launch} {B : Nat} {sa : Nat → Nat} {cy : Nat → ClassId} {dC : Nat → ClassId} {dI : Nat → Nat → Nat} {SA : Sta} {x1 x2 : Int32}
/-- the runs of the two questions that the class asks first -/
def Out (x1 x2 : Int32) : Prop := Ev none 997 127 0 [some (.ref 0), some (.int x1)] [] mem0 (some (.int 0)) mem0 0 0 ∨ (Ev none 997 127 0 [some (.ref 0), some (.int x1)] [] mem0 (some (.int 1)) mem0 0 0 ∧ Ev none 997 126 0 [some (.int x2), some (.int 0), some (.int 8)] [] mem0 (some (.int 0)) mem0 0 0)
theorem ret_W {p : Program} {e : Env} {R : Room} {s : State} {m : MethodId} {args : Array Value} {below : List Frame} {meth : Method} {c : Code} {cc : ByteArray} {v : Int32} {maxL cells slots pc : Nat} {vs : Lo} {M : Mem} (hx : p.tables.exec = Jvm.exec) (hb : c.code = cc) (hr : meth.sig.returnType = some .int) (hlocks : meth.locks = false) (hI : Inv B sa cy dC dI SA s) (d : decode cc pc = .ok (.ireturn, 1)) : Wst p l e R s m args below meth c (MQ below (Qcw B sa cy dC dI (some (.int v)) M) args s cells slots (fun q => B ≤ q)) B sa cy dC dI maxL cells slots pc vs [.int v] M := by
  intro H locs ls hP hS hsz hL
  refine W.sz (fun hz => ?_)
  have hH := world_size hI hP hS hsz hz
  exact W.iret hx hb hr (fun t ht hW => ⟨⟨v, (), rfl, rfl, by rw [ht]; exact hH, by rw [ht]; exact hP⟩, hS.F ht⟩) hS.2.2 d hlocks
set_option maxHeartbeats 8000000 in
set_option maxRecDepth 200000 in
theorem met_throw (hl : l.stackTraces = false) (hfill : MetFill l B sa cy dC dI SA) (h : Out x1 x2) : vx_Met l yX10_cell (.code yX10_cell cX10_cell 3 (some .int) :: W0) ({ frames := 998, cells := 1, slots := 6, locals := 39920 }) (PcX B sa cy dC dI SA [.ref 0, .int x1, .int x2] mem0) (va_Qi (fun (_ : Int32) (_ : Unit) => False) (fun _ _ => True) (fun q => B ≤ q)) (vx_X (fun _ : Unit => True) (fun E _ t => E = exN ∧ Bw B sa cy dC dI (mem0 ++ [.inr (12, [])]) t) (fun q => B ≤ q)) 1 6 (fun q => B ≤ q) := by
  refine vx_ofW (cc := cX10_cell) (maxL := 3) (ret := some .int) (by decide +kernel) rfl ?_
  intro p e s m args below meth c s₁ B9 hml hnt hv
  obtain ⟨⟨rfl, hI, hsz, hP⟩, hXt⟩ := hv
  have hts : ∀ w ∈ W0, w.before (([.ref 0, .int x1, .int x2] : List Value).map (rV B sa)).toArray s = true := fun w hw => atoms_spec (ws := .code yX10_cell cX10_cell 3 (some .int) :: W0) B9.pre w (List.mem_cons_of_mem _ hw)
  have hown : s.vm.findClass RX10 = some m.cls := findClass_of_methodNamed B9.named
  have hlv := lv_entry (([.ref 0, .int x1, .int x2] : List Value).map (rV B sa)) (n := 3) (Nat.le_refl _)
  rw [lg_entry_eq]
  generalize (lg_sl (([.ref 0, .int x1, .int x2] : List Value).map (rV B sa)) ++ List.replicate (3 - (lg_sl (([.ref 0, .int x1, .int x2] : List Value).map (rV B sa))).length) Slot.unset).toArray = ls at hlv ⊢
  have hL : LV B sa 3 [some (.ref 0), some (.int x1), some (.int x2)] ls := by
    refine ⟨rfl, _, hlv, fun i w hw => ?_⟩
    have := args_in B sa [.ref 0, .int x1, .int x2] 0 i w hw
    rwa [Nat.zero_add] at this
  have C : Ctx p (headSpec (.code yX10_cell cX10_cell 3 (some .int) :: W0) ({ frames := 998, cells := 1, slots := 6, locals := 39920 })).room s m (([.ref 0, .int x1, .int x2] : List Value).map (rV B sa)).toArray meth c B sa cy dC dI SA 10 1 998 3 RX10 cX10_cell := ⟨B9.exec, B9.bytes, hml, rfl, hown, hts, hI, (fun q => by cases q), Nat.le_refl _, Nat.le_refl _⟩
  have key : Wst p l e (headSpec (.code yX10_cell cX10_cell 3 (some .int) :: W0) ({ frames := 998, cells := 1, slots := 6, locals := 39920 })).room s m (([.ref 0, .int x1, .int x2] : List Value).map (rV B sa)).toArray below meth c (vx_MQ below (va_Qi (fun (_ : Int32) (_ : Unit) => False) (fun _ _ => True) (fun q => B ≤ q)) (vx_X (fun _ : Unit => True) (fun E _ t => E = exN ∧ Bw B sa cy dC dI (mem0 ++ [.inr (12, [])]) t) (fun q => B ≤ q)) (([.ref 0, .int x1, .int x2] : List Value).map (rV B sa)).toArray s 1 6 (fun q => B ≤ q)) B sa cy dC dI 3 0 0 18 [some (.ref 0), some (.int x1), some (.int x2)] [] mem0 := by
    intro H locs ls hP hS hsz hL
    refine W.sz (fun hz => ?_)
    have hH := world_size hI hP hS hsz hz
    have hls : ls.size = c.maxLocals := by
      obtain ⟨-, l9, h9, -⟩ := hL
      rw [hml]
      exact h9.1
    obtain ⟨q, hq⟩ := hXt.2.2.1
    exact vx_throw9 B9.exec B9.bytes hl (own := RX10) (ik := 242) (is := 244) (ic := 246) (sa := q) (A := fun q => B ≤ q) hown (hts _ ew_11) (hts _ ew_12) hq (x_hat hts hXt) ew_g hXt.1 hXt.2.1 hS hls d_c18 d_c21 d_c22 d_c24 d_c27 (fun x hx => absurd hx (hnt x)) (show 5 < 998 by decide) (Nat.le_of_ble_eq_true rfl) (Nat.le_refl _) (Nat.le_refl _) B9.notSynchronized (fun t hal h1 h2 h3 => ⟨(), trivial, ⟨rfl, exc_world hI hP hH h1 h2 h3⟩, by
      refine ⟨by rw [h1]; have := hS.1; omega, fun q9 hq9 hA => ?_⟩
      rw [h2 q9 (Nat.lt_of_lt_of_le hq9 hS.1)]
      exact hS.2.1 q9 hq9 hA⟩) hS.2.2 (Nat.le_refl _) (Nat.le_refl _)
  refine many_ok (n := 0) (pc := 0) (vs := [some (.ref 0), some (.int x1), some (.int x2)]) (st := []) (M := mem0) hfill C ck_c 2 (pc' := 2) (vs' := [some (.ref 0), some (.int x1), some (.int x2)]) (st' := [.int x1, .ref 0]) (M' := mem0) (c0 := 0) (s0 := 0) rfl (Nat.zero_le _) (Nat.zero_le _) ?_ s.heap [] ls hP va_S.rf hsz hL
  rcases h with h0 | ⟨h1, h2⟩
  · obtain ⟨n, h0⟩ := h0.any SA
    refine one_ok hfill C ck_c (one_call (i := .invokevirtual 113) (id := 127) (ls0 := [some (.ref 0), some (.int x1)]) (rest := []) rfl rfl h0) (Nat.zero_le _) (Nat.zero_le _) ?_
    refine many_ok (n := 0) hfill C ck_c 1 (pc' := 18) (vs' := [some (.ref 0), some (.int x1), some (.int x2)]) (st' := []) (M' := mem0) (c0 := 0) (s0 := 0) rfl (Nat.zero_le _) (Nat.zero_le _) ?_
    exact key
  · obtain ⟨n1, h1⟩ := h1.any SA
    obtain ⟨n2, h2⟩ := h2.any SA
    refine one_ok hfill C ck_c (one_call (i := .invokevirtual 113) (id := 127) (ls0 := [some (.ref 0), some (.int x1)]) (rest := []) rfl rfl h1) (Nat.zero_le _) (Nat.zero_le _) ?_
    refine many_ok (n := 0) hfill C ck_c 4 (pc' := 12) (vs' := [some (.ref 0), some (.int x1), some (.int x2)]) (st' := [.int 8, .int 0, .int x2]) (M' := mem0) (c0 := 0) (s0 := 0) rfl (Nat.zero_le _) (Nat.zero_le _) ?_
    refine one_ok hfill C ck_c (one_call (i := .invokestatic 103) (id := 126) (ls0 := [some (.int x2), some (.int 0), some (.int 8)]) (rest := []) rfl rfl h2) (Nat.zero_le _) (Nat.zero_le _) ?_
    refine many_ok (n := 0) hfill C ck_c 1 (pc' := 18) (vs' := [some (.ref 0), some (.int x1), some (.int x2)]) (st' := []) (M' := mem0) (c0 := 0) (s0 := 0) rfl (Nat.zero_le _) (Nat.zero_le _) ?_
    exact key
/-- the call's words -/
theorem cw_cell {R : Room} {s : State} {args : Array Value} (hts : ∀ w ∈ W0, w.before args s = true) {rm : Room} (hf : rm.frames + 1 ≤ R.frames) (hlo : 8 + (3 + 11) + rm.locals ≤ R.locals) : CallW R s args RL RX10 7 yX10_cell cX10_cell 3 (some .int) (.code yX10_cell cX10_cell 3 (some .int) :: W0) rm rm.cells rm.slots 2 :=
  ⟨callB_of 2 hts (goodW0 ew_10) rfl rfl rfl (hts _ ew_9) (hts _ ew_6) ⟨by decide +kernel, by decide +kernel, by decide +kernel⟩ ⟨hf, hlo⟩, hts _ ew_7, hts _ ew_8⟩
set_option maxHeartbeats 8000000 in
set_option maxRecDepth 200000 in
theorem met_Lthrow (hl : l.stackTraces = false) (hfill : MetFill l B sa cy dC dI SA) (h : Out x1 x2) : Met l yL_cell (.codeWith yL_cell cL_cell 5 (some .int) [(0, 10, 13, 13)] :: W0) ({ frames := 999, cells := 1, slots := 6, locals := 39960 }) (PcX B sa cy dC dI SA [.ref 0, .int x1, .int x2, .ref 663] mem0) (Qcw B sa cy dC dI (some (.int 1)) (mem0 ++ [.inr (12, [])])) 1 6 (fun q => B ≤ q) := by
  refine va_MetW (cc := cL_cell) (maxL := 5) (ret := some .int) (hh := [(0, 10, 13, 13)]) (by decide +kernel) rfl ?_
  intro p e s m args below meth c s₁ B9 hml hv
  obtain ⟨⟨rfl, hI, hsz, hP⟩, hXt⟩ := hv
  have hts0 := atoms_spec (ws := .codeWith yL_cell cL_cell 5 (some .int) [(0, 10, 13, 13)] :: W0) B9.pre
  have htb : c.exceptionTable.toList = tableOf [(0, 10, 13, 13)]  := vx_table (x := yL_cell) B9 (hts0 _ List.mem_cons_self)
  have hts : ∀ w ∈ W0, w.before (([.ref 0, .int x1, .int x2, .ref 663] : List Value).map (rV B sa)).toArray s = true := fun w hw => hts0 w (List.mem_cons_of_mem _ hw)
  have hown : s.vm.findClass RL = some m.cls := findClass_of_methodNamed B9.named
  have hlv := lv_entry (([.ref 0, .int x1, .int x2, .ref 663] : List Value).map (rV B sa)) (n := 5) (show 4 ≤ 5 by decide)
  rw [lg_entry_eq]
  generalize (lg_sl (([.ref 0, .int x1, .int x2, .ref 663] : List Value).map (rV B sa)) ++ List.replicate (5 - (lg_sl (([.ref 0, .int x1, .int x2, .ref 663] : List Value).map (rV B sa))).length) Slot.unset).toArray = ls at hlv ⊢
  have hL : LV B sa 5 [some (.ref 0), some (.int x1), some (.int x2), some (.ref 663), none] ls := by
    refine ⟨rfl, _, hlv, fun i w hw => ?_⟩
    have := args_in B sa [.ref 0, .int x1, .int x2, .ref 663] 0 i w (pad_nth (n := 5) hw)
    rwa [Nat.zero_add] at this
  have C : Ctx p (headSpec (.codeWith yL_cell cL_cell 5 (some .int) [(0, 10, 13, 13)] :: W0) ({ frames := 999, cells := 1, slots := 6, locals := 39960 })).room s m (([.ref 0, .int x1, .int x2, .ref 663] : List Value).map (rV B sa)).toArray meth c B sa cy dC dI SA 12 0 999 5 RL cL_cell := ⟨B9.exec, B9.bytes, hml, rfl, hown, hts, hI, (fun q => by cases q), Nat.le_refl _, Nat.le_refl _⟩
  refine many_ok (n := 0) (pc := 0) (vs := [some (.ref 0), some (.int x1), some (.int x2), some (.ref 663), none]) (st := []) (M := mem0) hfill C ck_l 5 (pc' := 5) (vs' := [some (.ref 0), some (.int x1), some (.int x2), some (.ref 663), none]) (st' := [.int x2, .int x1, .ref 0, .int 0, .ref 663]) (M' := mem0) (c0 := 0) (s0 := 0) rfl (Nat.zero_le _) (Nat.zero_le _) ?_ s.heap [] ls hP va_S.rf hsz hL
  clear hP hsz hL hlv ls
  intro H locs ls hP hS hsz hL
  refine W.sz (fun hz => ?_)
  have hH := world_size hI hP hS hsz hz
  obtain ⟨-, l9, h9, -⟩ := id hL
  have hpre : PreV s H RX10 (B + 0) (PcX B sa cy dC dI SA [.ref 0, .int x1, .int x2] mem0) ([.int x1, .int x2] : List Value) := by
    obtain ⟨-, p2, p3⟩ := pre_v (M := mem0) (as := [.int x1, .int x2]) (a := 0) (o2 := 10) (C := RX10) rfl (by decide) rfl hI hP hS hH
    refine ⟨pcx_blind, p2, fun U hU hW => ⟨p3 U hU hW, hXt.next hW (fun a ha => ?_)⟩⟩
    rw [hU]
    exact hS.2.1 a (Nat.lt_of_lt_of_le ha hI.2.2.2.2.1) (Nat.not_le.mpr ha)
  refine vx_calli (a := ([.ref (B + 0), .int x1, .int x2] : List Value).toArray) (vx_runV (C := RX10) (b := B + 0) (As := [.int x1, .int x2]) (rest := [.int 0, .ref (B + 663)]) (cc := cL_cell) (nL := 5) ⟨B9.exec, B9.bytes, hml, hown, hts⟩ (met_throw hl hfill h) (cw_cell hts (Nat.le_refl _) (Nat.le_of_ble_eq_true rfl)) hpre rfl rfl h9.1 rfl (show 0 + (1 + (1 + 0)) ≤ 8 by decide) d_l5 ⟨Nat.le_refl _, Nat.le_refl _⟩) hS (fun _ _ h => h) (fun _ h => h) (fun _ _ h => h) ?_ ?_
  · intro E ce q9 u t H1 locs1 ht hal _ hB hz1 hq1 hS1 hce hcv hcl
    obtain ⟨hE, hB⟩ := hB
    subst hE
    refine vx_catch (own := RL) (name := exN) (E := exN) hown [] ⟨0, 10, 13, 13⟩ [] (by rw [htb]; rfl) (fun z hz => nomatch hz) rfl (by decide) (hts _ ew_5) (va_Nw.use rfl (hXt.2.2.2 _ ew_c)) hce hcv hcl ?_
    refine lv_astore B9.exec B9.bytes d_l13 h9 (by decide) rfl (fun ls' hl' => ?_)
    refine lv_iconst B9.exec B9.bytes d_l15 rfl ?_
    exact W.iret B9.exec B9.bytes B9.returns (fun t9 ht9 hW => ⟨⟨1, (), rfl, rfl, by rw [ht9, ← ht]; exact hB.1, by rw [ht9, ← ht]; exact hB.2⟩, hS1.F ht9⟩) hS1.2.2 d_l16 B9.notSynchronized
  · intro r u t H1 locs1 ht hal hpost
    exact absurd hpost (fun q => q)
end CEL
