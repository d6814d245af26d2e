/-! The law's cell: the class's method answers, or throws; the law catches -/
theorem cal_9c {M : Mem} {x : Int32} (hM : ∃ vs, gNth M 0 = some (.inr (10, vs))) : gCal (.invokevirtual 113) 10 [.int x, .ref 0] M = some (.inr (127, [some (.ref 0), some (.int x)], [])) := by
  obtain ⟨vs, hM⟩ := hM
  show @cond (Option ((List Value × Mem) ⊕ (Nat × Lo × List Value))) (true && gRecv M (.ref 0) 10 && gRoom [] && true) (some (.inr (127, [some (.ref 0), some (.int x)], []))) none = _
  rw [recv_c hM]
  rfl
theorem cal_9w {M : Mem} {x : Int32} (hM : ∃ vs, gNth M 0 = some (.inr (10, vs))) : gCal (.invokevirtual 261) 10 [.int x, .ref 0] M = some (.inr (131, [some (.ref 0), some (.int x)], [])) := by
  obtain ⟨vs, hM⟩ := hM
  show @cond (Option ((List Value × Mem) ⊕ (Nat × Lo × List Value))) (true && gRecv M (.ref 0) 10 && gRoom [] && true) (some (.inr (131, [some (.ref 0), some (.int x)], []))) none = _
  rw [recv_c hM]
  rfl
def mTc : List (Nat × Nat × Instr) := [(0, 1, .aload_n 0), (1, 1, .iload_n 1), (2, 7, .invokevirtual 113), (5, 2, .ifCond .eq 13), (8, 1, .iload_n 2), (9, 0, .iconst 0), (10, 0, .bipush 8), (12, 7, .invokestatic 103), (15, 2, .ifCond .ne 13), (28, 1, .iload_n 2), (29, 2, .tableswitch 131 0 7 #[47, 57, 67, 77, 87, 97, 107, 117]), (76, 1, .aload_n 0), (77, 3, .getfield 28), (80, 3, .getfield 214), (83, 1, .iload_n 1), (84, 3, .iaload), (85, 6, .ireturn), (86, 1, .aload_n 0), (87, 3, .getfield 28), (90, 3, .getfield 249), (93, 1, .iload_n 1), (94, 3, .iaload), (95, 6, .ireturn), (96, 1, .aload_n 0), (97, 3, .getfield 28), (100, 3, .getfield 252), (103, 1, .iload_n 1), (104, 3, .iaload), (105, 6, .ireturn), (106, 1, .aload_n 0), (107, 3, .getfield 28), (110, 3, .getfield 255), (113, 1, .iload_n 1), (114, 3, .iaload), (115, 6, .ireturn), (116, 1, .aload_n 0), (117, 3, .getfield 28), (120, 3, .getfield 217), (123, 1, .iload_n 1), (124, 3, .iaload), (125, 6, .ireturn), (126, 1, .aload_n 0), (127, 3, .getfield 28), (130, 3, .getfield 258), (133, 1, .iload_n 1), (134, 3, .iaload), (135, 6, .ireturn), (136, 1, .aload_n 0), (137, 3, .getfield 28), (140, 3, .getfield 226), (143, 1, .iload_n 1), (144, 3, .iaload), (145, 6, .ireturn), (146, 1, .aload_n 0), (147, 1, .iload_n 1), (148, 7, .invokevirtual 261), (151, 2, .ifCond .eq 7), (154, 0, .iconst 1), (155, 2, .goto 4), (158, 0, .iconst 0), (159, 6, .ireturn), (160, 1, .aload_n 0), (161, 1, .iload_n 1), (162, 7, .invokevirtual 261), (165, 2, .ifCond .eq 29), (168, 1, .aload_n 0), (169, 3, .getfield 28), (172, 3, .getfield 217), (175, 1, .iload_n 1), (176, 3, .iaload), (177, 1, .aload_n 0), (178, 3, .getfield 37), (181, 3, .getfield 134), (184, 3, .getfield 264), (187, 2, .if_icmp .lt 7), (190, 0, .iconst 1), (191, 2, .goto 4), (194, 0, .iconst 0), (195, 6, .ireturn)]
def mTl : List (Nat × Nat × Instr) := [(0, 1, .aload_n 3), (1, 0, .iconst 0), (2, 1, .aload_n 0), (3, 1, .iload_n 1), (4, 1, .iload_n 2), (5, 7, .invokevirtual 7), (8, 0, .i2l), (9, 4, .lastore), (10, 2, .goto 7), (15, 0, .iconst 1), (16, 6, .ireturn), (17, 0, .iconst 0), (18, 6, .ireturn)]
set_option maxRecDepth 100000 in
theorem ck_c : mTc.all (ckD cX10_cell) = true := by decide +kernel
set_option maxRecDepth 100000 in
theorem ck_l : mTl.all (ckD cL_cell) = true := by decide +kernel
/-- what the throw asks of the tables -/
def exL : List Cond := (xnA RX10 246).filter vx_no
def BXs : List Cond := (exL).filter (fun w => !goodWord w)
theorem w_in {w : Cond} (h : w ∈ lw_tbl) (g : goodWord w = true) : w ∈ W0 := List.mem_filter.mpr ⟨h, g⟩
/-- words and their places in the tables, side by side -/
noncomputable def ckPl : List Cond → List Nat → Bool
  | [], _ => true
  | w :: ws, p :: ps => ckW p w && ckPl ws ps
  | _ :: _, [] => false
theorem ckPl_in : ∀ {ws : List Cond} {ps : List Nat}, ckPl ws ps = true → ∀ w ∈ ws, w ∈ lw_tbl
  | [], _, _ => fun w hw => nomatch hw
  | v :: ws, [], h => by cases h
  | v :: ws, p :: ps, h => by
    rw [ckPl, Bool.and_eq_true] at h
    intro w hw
    rcases List.mem_cons.mp hw with e | e
    · rw [e]
      exact (List.mem_filter.mp (ckW_in h.1)).1
    · exact ckPl_in h.2 w e
set_option maxRecDepth 100000 in
theorem ew_x : ∀ w ∈ (exL).filter goodWord, w ∈ lw_tbl := by
  first
  | exact ckPl_in (ps := [1019, 5235, 6004, 6006, 6009, 6011, 5236, 5237, 1031, 1032, 5238, 6003, 6007, 6027, 5225, 6028, 5227, 6029, 5229, 5239, 6001, 5231, 6023, 6024, 6026, 5231, 6014, 6015, 6016, 6017, 6017, 6018, 6019, 6020, 6020, 6021, 6022, 6023, 6013, 5214, 5222, 5223, 5224, 5226, 5228, 5230, 5234, 5233, 5232]) (by decide +kernel)
  | decide +kernel
set_option maxRecDepth 100000 in
theorem ew_b : ∀ w ∈ BXs, w ∈ lw_tbl := by decide +kernel
theorem ew_bs : BXs.all (fun w => match w with
  | .declares _ => true
  | .castable _ _ => true
  | _ => false) = true := by decide +kernel
theorem ew_g : ∀ w ∈ Cond.classLink RX10 242 exN :: Cond.initialized exN :: exL, vx_ot w = true := by decide +kernel
theorem ew_c : Cond.castable exN exN ∈ BXs := by decide +kernel
set_option maxRecDepth 100000 in
theorem ew_l : ∀ w ∈ [Cond.codeWith yL_cell cL_cell 5 (some .int) [(0, 10, 13, 13)], Cond.methodLink RL 80 yL_cell, Cond.static yL_cell, Cond.initialized RL, Cond.classLink RL 13 exN, Cond.methodLink RL 7 yX10_cell, Cond.instanceMethod yX10_cell, Cond.selects RX10 yX10_cell yX10_cell, Cond.initialized RX10, Cond.code yX10_cell cX10_cell 3 (some .int), Cond.classLink RX10 242 exN, Cond.initialized exN], w ∈ lw_tbl := by
  first
  | exact ckPl_in (ps := [5207, 5205, 5206, 1000, 5208, 5209, 5210, 5211, 1001, 5212, 5213, 1022]) (by decide +kernel)
  | decide +kernel
theorem ew_lg : ∀ w ∈ [Cond.codeWith yL_cell cL_cell 5 (some .int) [(0, 10, 13, 13)], Cond.methodLink RL 80 yL_cell, Cond.static yL_cell, Cond.initialized RL, Cond.classLink RL 13 exN, Cond.methodLink RL 7 yX10_cell, Cond.instanceMethod yX10_cell, Cond.selects RX10 yX10_cell yX10_cell, Cond.initialized RX10, Cond.code yX10_cell cX10_cell 3 (some .int), Cond.classLink RX10 242 exN, Cond.initialized exN], goodWord w = true := by decide +kernel
theorem ew_1 : Cond.codeWith yL_cell cL_cell 5 (some .int) [(0, 10, 13, 13)] ∈ W0 := w_in (ew_l _ (List.mem_of_getElem? (i := 0) rfl)) (ew_lg _ (List.mem_of_getElem? (i := 0) rfl))
theorem ew_2 : Cond.methodLink RL 80 yL_cell ∈ W0 := w_in (ew_l _ (List.mem_of_getElem? (i := 1) rfl)) (ew_lg _ (List.mem_of_getElem? (i := 1) rfl))
theorem ew_3 : Cond.static yL_cell ∈ W0 := w_in (ew_l _ (List.mem_of_getElem? (i := 2) rfl)) (ew_lg _ (List.mem_of_getElem? (i := 2) rfl))
theorem ew_4 : Cond.initialized RL ∈ W0 := w_in (ew_l _ (List.mem_of_getElem? (i := 3) rfl)) (ew_lg _ (List.mem_of_getElem? (i := 3) rfl))
theorem ew_5 : Cond.classLink RL 13 exN ∈ W0 := w_in (ew_l _ (List.mem_of_getElem? (i := 4) rfl)) (ew_lg _ (List.mem_of_getElem? (i := 4) rfl))
theorem ew_6 : Cond.methodLink RL 7 yX10_cell ∈ W0 := w_in (ew_l _ (List.mem_of_getElem? (i := 5) rfl)) (ew_lg _ (List.mem_of_getElem? (i := 5) rfl))
theorem ew_7 : Cond.instanceMethod yX10_cell ∈ W0 := w_in (ew_l _ (List.mem_of_getElem? (i := 6) rfl)) (ew_lg _ (List.mem_of_getElem? (i := 6) rfl))
theorem ew_8 : Cond.selects RX10 yX10_cell yX10_cell ∈ W0 := w_in (ew_l _ (List.mem_of_getElem? (i := 7) rfl)) (ew_lg _ (List.mem_of_getElem? (i := 7) rfl))
theorem ew_9 : Cond.initialized RX10 ∈ W0 := w_in (ew_l _ (List.mem_of_getElem? (i := 8) rfl)) (ew_lg _ (List.mem_of_getElem? (i := 8) rfl))
theorem ew_10 : Cond.code yX10_cell cX10_cell 3 (some .int) ∈ W0 := w_in (ew_l _ (List.mem_of_getElem? (i := 9) rfl)) (ew_lg _ (List.mem_of_getElem? (i := 9) rfl))
theorem ew_11 : Cond.classLink RX10 242 exN ∈ W0 := w_in (ew_l _ (List.mem_of_getElem? (i := 10) rfl)) (ew_lg _ (List.mem_of_getElem? (i := 10) rfl))
theorem ew_12 : Cond.initialized exN ∈ W0 := w_in (ew_l _ (List.mem_of_getElem? (i := 11) rfl)) (ew_lg _ (List.mem_of_getElem? (i := 11) rfl))
/-- what a throw needs besides the words -/
def Xtr (B : Nat) (U : State) : Prop := vx_Zq Bundle.tN "UNASSIGNED_STACK" Bundle.steD (fun q => B ≤ q) U U.heap ∧ vx_Zq Bundle.tN "SUPPRESSED_SENTINEL" Bundle.listD (fun q => B ≤ q) U U.heap ∧ (∃ q : Nat, vk_R RX10 244 exTx q U) ∧ ∀ w ∈ BXs, va_Nw w U
theorem Xtr.next {B : Nat} {s U : State} (h : Xtr B s) (hW : s.WarmedH U.vm) (hq : ∀ a : Nat, a < B → U.heap[a]? = s.heap[a]?) : Xtr B U := by
  obtain ⟨h1, h2, ⟨q, h3⟩, h4⟩ := h
  refine ⟨vx_Zq.moved hW.alike (h1.kept (fun a _ hA => hq a (Nat.lt_of_not_le hA))), vx_Zq.moved hW.alike (h2.kept (fun a _ hA => hq a (Nat.lt_of_not_le hA))), ⟨q, vk_R.warm hW h3⟩, fun w hw => ?_⟩
  have hs := List.all_eq_true.mp ew_bs w hw
  have hn := h4 w hw
  cases w <;> first | exact va_Nw.warmD hW hn | exact va_Nw.warmC hW hn | cases hs
theorem bx_ot : ∀ w ∈ BXs, w.onTables = true := by decide +kernel
theorem Xtr.blind {B : Nat} {U : State} (a : Array Value) (g : JFrame) (mk : MethodId) (h : Xtr B U) : Xtr B (U.calling g mk a) := by
  obtain ⟨h1, h2, ⟨q, h3⟩, h4⟩ := h
  exact ⟨vx_Zq.moved (u := U) (U := U.calling g mk a) (Vm.Alike.refl U.vm) h1, vx_Zq.moved (u := U) (U := U.calling g mk a) (Vm.Alike.refl U.vm) h2, ⟨q, vk_R.same (u := U) (U := U.calling g mk a) rfl h3⟩, fun w hw => va_Nw.same (u := U) (U := U.calling g mk a) (bx_ot w hw) rfl (h4 w hw)⟩
def PcX (B : Nat) (sa : Nat → Nat) (cy : Nat → ClassId) (dC : Nat → ClassId) (dI : Nat → Nat → Nat) (SA : Sta) (as : List Value) (M : Mem) : Array Value → State → Prop := fun a U => Pcw B sa cy dC dI SA as M a U ∧ Xtr B U
theorem pcx_blind {B : Nat} {sa : Nat → Nat} {cy : Nat → ClassId} {dC : Nat → ClassId} {dI : Nat → Nat → Nat} {SA : Sta} {as : List Value} {M : Mem} : FrameBlind (PcX B sa cy dC dI SA as M) := fun a U g mk h => ⟨pc_blind a U g mk h.1, h.2.blind a g mk⟩
theorem x_hat {B : Nat} {s : State} {args : Array Value} (hts : ∀ w ∈ W0, w.before args s = true) (hX : Xtr B s) : ∀ w ∈ exL, w.before args s = true :=
  vx_hat (B := BXs) (fun w hw => hts w (w_in (ew_x w hw) (List.mem_filter.mp hw).2)) (fun w h => h) (fun w hw => va_Nw.use (bx_ot w hw) (hX.2.2.2 w hw))
theorem d_c18 : decode cX10_cell 18 = .ok (.new 242, 3) := by decide +kernel
theorem d_c21 : decode cX10_cell 21 = .ok (.dup, 1) := by decide +kernel
theorem d_c22 : decode cX10_cell 22 = .ok (.ldc 244, 2) := by decide +kernel
theorem d_c24 : decode cX10_cell 24 = .ok (.invokespecial 246, 3) := by decide +kernel
theorem d_c27 : decode cX10_cell 27 = .ok (.athrow, 1) := by decide +kernel
theorem d_l5 : decode cL_cell 5 = .ok (.invokevirtual 7, 3) := by decide +kernel
theorem d_l13 : decode cL_cell 13 = .ok (.astore 4, 2) := by decide +kernel
theorem d_l15 : decode cL_cell 15 = .ok (.iconst 1, 1) := by decide +kernel
theorem d_l16 : decode cL_cell 16 = .ok (.ireturn, 1) := by decide +kernel
/-- the new object as a cell of the memory -/
theorem exc_world {B : Nat} {sa : Nat → Nat} {cy : Nat → ClassId} {dC : Nat → ClassId} {dI : Nat → Nat → Nat} {SA : Sta} {s t : State} {H : Heap} {M : Mem} (hI : Inv B sa cy dC dI SA s) (hP : va_P (dC, dI) gCL (wd B sa cy M) H) (hH : H.size = B + M.length) (hz : t.heap.size = H.size + 1) (hq : ∀ q : Nat, q < H.size → t.heap[q]? = H[q]?) (hc : ∃ ce : Cell, t.heap[H.size]? = some ce ∧ ce.vm = .none ∧ s.vm.findClass exN = some ce.cls) : Bw B sa cy dC dI (M ++ [.inr (12, [])]) t := by
  refine ⟨by rw [hz, hH, List.length_append]; rfl, fun k q hk => ?_⟩
  rw [← wd_app] at hk
  have hlen : (wd B sa cy M).length = M.length := by rw [wd, List.length_mapIdx]
  by_cases h : k < M.length
  · rw [List.getElem?_append_left (by omega)] at hk
    exact (hP k q hk).kept (hq _ (hP k q hk).lt)
  · rw [List.getElem?_append_right (by omega)] at hk
    have hk0 : k - (wd B sa cy M).length = 0 := by
      have := (List.getElem?_eq_some_iff.mp hk).1
      simpa using this
    rw [hk0] at hk
    cases hk
    obtain ⟨ce, h1, h2, h3⟩ := hc
    have hcl := (hI.1.1 12 _ rfl).2.1
    refine ⟨_, rfl, ce, ?_, ?_, h2, fun j hj => absurd hj (Nat.not_lt_zero j)⟩
    · show t.heap[B + M.length]? = some ce
      rw [← hH]
      exact h1
    · exact Option.some.inj (h3.symm.trans hcl)
section CEL
variable {l : Launch} {B : Nat} {sa : Nat → Nat} {cy : Nat → ClassId} {dC : Nat → ClassId} {dI : Nat → Nat → Nat} {SA : Sta} {x1 x2 : Int32} {M : Mem}
/-- the runs of the two questions that the class asks first -/
def Out (M : Mem) (x1 x2 : Int32) : Prop := Ev none 997 127 0 [some (.ref 0), some (.int x1)] [] M (some (.int 0)) M 0 0 ∨ (Ev none 997 127 0 [some (.ref 0), some (.int x1)] [] M (some (.int 1)) M 0 0 ∧ Ev none 997 126 0 [some (.int x2), some (.int 0), some (.int 8)] [] M (some (.int 0)) M 0 0)
theorem ret_W {p : Program} {e : Env} {R : Room} {s : State} {m : MethodId} {args : Array Value} {below : List Frame} {meth : Method} {c : Code} {cc : ByteArray} {v : Int32} {maxL cells slots pc : Nat} {vs : Lo} (hx : p.tables.exec = Jvm.exec) (hb : c.code = cc) (hr : meth.sig.returnType = some .int) (hlocks : meth.locks = false) (hI : Inv B sa cy dC dI SA s) (d : decode cc pc = .ok (.ireturn, 1)) : Wst p l e R s m args below meth c (MQ below (Qcw B sa cy dC dI (some (.int v)) M) args s cells slots (fun q => B ≤ q)) B sa cy dC dI maxL cells slots pc vs [.int v] M := by
  intro H locs ls hP hS hsz hL
  refine W.sz (fun hz => ?_)
  have hH := world_size hI hP hS hsz hz
  exact W.iret hx hb hr (fun t ht hW => ⟨⟨v, (), rfl, rfl, by rw [ht]; exact hH, by rw [ht]; exact hP⟩, hS.F ht⟩) hS.2.2 d hlocks
set_option maxHeartbeats 8000000 in
set_option maxRecDepth 200000 in
theorem met_throw (hl : l.stackTraces = false) (hlib : MetLib l B sa cy dC dI SA) (hr0 : ∃ vs, gNth M 0 = some (.inr (10, vs))) (h : Out M x1 x2) : vx_Met l yX10_cell (.code yX10_cell cX10_cell 3 (some .int) :: W0) ({ frames := 1006, cells := 1, slots := 6, locals := 40240 }) (PcX B sa cy dC dI SA [.ref 0, .int x1, .int x2] M) (va_Qi (fun (_ : Int32) (_ : Unit) => False) (fun _ _ => True) (fun q => B ≤ q)) (vx_X (fun _ : Unit => True) (fun E _ t => E = exN ∧ Bw B sa cy dC dI (M ++ [.inr (12, [])]) t) (fun q => B ≤ q)) 1 6 (fun q => B ≤ q) := by
  refine vx_ofW (cc := cX10_cell) (maxL := 3) (ret := some .int) (by decide +kernel) rfl ?_
  intro p e s m args below meth c s₁ B9 hml hnt hv
  obtain ⟨⟨rfl, hI, hsz, hP⟩, hXt⟩ := hv
  have hts : ∀ w ∈ W0, w.before (([.ref 0, .int x1, .int x2] : List Value).map (rV B sa)).toArray s = true := fun w hw => atoms_spec (ws := .code yX10_cell cX10_cell 3 (some .int) :: W0) B9.pre w (List.mem_cons_of_mem _ hw)
  have hown : s.vm.findClass RX10 = some m.cls := findClass_of_methodNamed B9.named
  have hlv := lv_entry (([.ref 0, .int x1, .int x2] : List Value).map (rV B sa)) (n := 3) (Nat.le_refl _)
  rw [lg_entry_eq]
  generalize (lg_sl (([.ref 0, .int x1, .int x2] : List Value).map (rV B sa)) ++ List.replicate (3 - (lg_sl (([.ref 0, .int x1, .int x2] : List Value).map (rV B sa))).length) Slot.unset).toArray = ls at hlv ⊢
  have hL : LV B sa 3 [some (.ref 0), some (.int x1), some (.int x2)] ls := by
    refine ⟨rfl, _, hlv, fun i w hw => ?_⟩
    have := args_in B sa [.ref 0, .int x1, .int x2] 0 i w hw
    rwa [Nat.zero_add] at this
  have C : Ctx p (headSpec (.code yX10_cell cX10_cell 3 (some .int) :: W0) ({ frames := 1006, cells := 1, slots := 6, locals := 40240 })).room s m (([.ref 0, .int x1, .int x2] : List Value).map (rV B sa)).toArray meth c B sa cy dC dI SA 10 1 998 3 RX10 cX10_cell := ⟨B9.exec, B9.bytes, hml, rfl, hown, hts, hI, (fun q => by cases q), Nat.le_refl _, Nat.le_refl _⟩
  have key : Wst p l e (headSpec (.code yX10_cell cX10_cell 3 (some .int) :: W0) ({ frames := 1006, cells := 1, slots := 6, locals := 40240 })).room s m (([.ref 0, .int x1, .int x2] : List Value).map (rV B sa)).toArray below meth c (vx_MQ below (va_Qi (fun (_ : Int32) (_ : Unit) => False) (fun _ _ => True) (fun q => B ≤ q)) (vx_X (fun _ : Unit => True) (fun E _ t => E = exN ∧ Bw B sa cy dC dI (M ++ [.inr (12, [])]) t) (fun q => B ≤ q)) (([.ref 0, .int x1, .int x2] : List Value).map (rV B sa)).toArray s 1 6 (fun q => B ≤ q)) B sa cy dC dI 3 0 0 18 [some (.ref 0), some (.int x1), some (.int x2)] [] M := by
    intro H locs ls hP hS hsz hL
    refine W.sz (fun hz => ?_)
    have hH := world_size hI hP hS hsz hz
    have hls : ls.size = c.maxLocals := by
      obtain ⟨-, l9, h9, -⟩ := hL
      rw [hml]
      exact h9.1
    obtain ⟨q, hq⟩ := hXt.2.2.1
    exact vx_throw9 B9.exec B9.bytes hl (own := RX10) (ik := 242) (is := 244) (ic := 246) (sa := q) (A := fun q => B ≤ q) hown (hts _ ew_11) (hts _ ew_12) hq (x_hat hts hXt) ew_g hXt.1 hXt.2.1 hS hls d_c18 d_c21 d_c22 d_c24 d_c27 (fun x hx => absurd hx (hnt x)) (show 5 < 1006 by decide) (Nat.le_of_ble_eq_true rfl) (Nat.le_refl _) (Nat.le_refl _) B9.notSynchronized (fun t hal h1 h2 h3 => ⟨(), trivial, ⟨rfl, exc_world hI hP hH h1 h2 h3⟩, by
      refine ⟨by rw [h1]; have := hS.1; omega, fun q9 hq9 hA => ?_⟩
      rw [h2 q9 (Nat.lt_of_lt_of_le hq9 hS.1)]
      exact hS.2.1 q9 hq9 hA⟩) hS.2.2 (Nat.le_refl _) (Nat.le_refl _)
  refine many_ok (n := 0) (pc := 0) (vs := [some (.ref 0), some (.int x1), some (.int x2)]) (st := []) (M := M) hlib C ck_c 2 (pc' := 2) (vs' := [some (.ref 0), some (.int x1), some (.int x2)]) (st' := [.int x1, .ref 0]) (M' := M) (c0 := 0) (s0 := 0) rfl (Nat.zero_le _) (Nat.zero_le _) ?_ s.heap [] ls hP va_S.rf hsz hL
  rcases h with h0 | ⟨h1, h2⟩
  · obtain ⟨n, h0⟩ := h0.any SA
    refine one_ok hlib C ck_c (one_call (i := .invokevirtual 113) (id := 127) (ls0 := [some (.ref 0), some (.int x1)]) (rest := []) rfl (cal_9c hr0) h0) (Nat.zero_le _) (Nat.zero_le _) ?_
    refine many_ok (n := 0) hlib C ck_c 1 (pc' := 18) (vs' := [some (.ref 0), some (.int x1), some (.int x2)]) (st' := []) (M' := M) (c0 := 0) (s0 := 0) rfl (Nat.zero_le _) (Nat.zero_le _) ?_
    exact key
  · obtain ⟨n1, h1⟩ := h1.any SA
    obtain ⟨n2, h2⟩ := h2.any SA
    refine one_ok hlib C ck_c (one_call (i := .invokevirtual 113) (id := 127) (ls0 := [some (.ref 0), some (.int x1)]) (rest := []) rfl (cal_9c hr0) h1) (Nat.zero_le _) (Nat.zero_le _) ?_
    refine many_ok (n := 0) hlib C ck_c 4 (pc' := 12) (vs' := [some (.ref 0), some (.int x1), some (.int x2)]) (st' := [.int 8, .int 0, .int x2]) (M' := M) (c0 := 0) (s0 := 0) rfl (Nat.zero_le _) (Nat.zero_le _) ?_
    refine one_ok hlib C ck_c (one_call (i := .invokestatic 103) (id := 126) (ls0 := [some (.int x2), some (.int 0), some (.int 8)]) (rest := []) rfl rfl h2) (Nat.zero_le _) (Nat.zero_le _) ?_
    refine many_ok (n := 0) hlib C ck_c 1 (pc' := 18) (vs' := [some (.ref 0), some (.int x1), some (.int x2)]) (st' := []) (M' := M) (c0 := 0) (s0 := 0) rfl (Nat.zero_le _) (Nat.zero_le _) ?_
    exact key
/-- the call's words -/
theorem cw_cell {R : Room} {s : State} {args : Array Value} (hts : ∀ w ∈ W0, w.before args s = true) {rm : Room} (hf : rm.frames + 1 ≤ R.frames) (hlo : 8 + (3 + 11) + rm.locals ≤ R.locals) : CallW R s args RL RX10 7 yX10_cell cX10_cell 3 (some .int) (.code yX10_cell cX10_cell 3 (some .int) :: W0) rm rm.cells rm.slots 2 :=
  ⟨callB_of 2 hts (goodW0 ew_10) rfl rfl rfl (hts _ ew_9) (hts _ ew_6) ⟨by decide +kernel, by decide +kernel, by decide +kernel⟩ ⟨hf, hlo⟩, hts _ ew_7, hts _ ew_8⟩
set_option maxHeartbeats 8000000 in
set_option maxRecDepth 200000 in
theorem met_Lthrow (hl : l.stackTraces = false) (hlib : MetLib l B sa cy dC dI SA) (hr0 : ∃ vs, gNth M 0 = some (.inr (10, vs))) (h : Out M x1 x2) : Met l yL_cell (.codeWith yL_cell cL_cell 5 (some .int) [(0, 10, 13, 13)] :: W0) ({ frames := 1007, cells := 1, slots := 6, locals := 40280 }) (PcX B sa cy dC dI SA [.ref 0, .int x1, .int x2, .ref 663] M) (Qcw B sa cy dC dI (some (.int 1)) (M ++ [.inr (12, [])])) 1 6 (fun q => B ≤ q) := by
  refine va_MetW (cc := cL_cell) (maxL := 5) (ret := some .int) (hh := [(0, 10, 13, 13)]) (by decide +kernel) rfl ?_
  intro p e s m args below meth c s₁ B9 hml hv
  obtain ⟨⟨rfl, hI, hsz, hP⟩, hXt⟩ := hv
  have hts0 := atoms_spec (ws := .codeWith yL_cell cL_cell 5 (some .int) [(0, 10, 13, 13)] :: W0) B9.pre
  have htb : c.exceptionTable.toList = tableOf [(0, 10, 13, 13)]  := vx_table (x := yL_cell) B9 (hts0 _ List.mem_cons_self)
  have hts : ∀ w ∈ W0, w.before (([.ref 0, .int x1, .int x2, .ref 663] : List Value).map (rV B sa)).toArray s = true := fun w hw => hts0 w (List.mem_cons_of_mem _ hw)
  have hown : s.vm.findClass RL = some m.cls := findClass_of_methodNamed B9.named
  have hlv := lv_entry (([.ref 0, .int x1, .int x2, .ref 663] : List Value).map (rV B sa)) (n := 5) (show 4 ≤ 5 by decide)
  rw [lg_entry_eq]
  generalize (lg_sl (([.ref 0, .int x1, .int x2, .ref 663] : List Value).map (rV B sa)) ++ List.replicate (5 - (lg_sl (([.ref 0, .int x1, .int x2, .ref 663] : List Value).map (rV B sa))).length) Slot.unset).toArray = ls at hlv ⊢
  have hL : LV B sa 5 [some (.ref 0), some (.int x1), some (.int x2), some (.ref 663), none] ls := by
    refine ⟨rfl, _, hlv, fun i w hw => ?_⟩
    have := args_in B sa [.ref 0, .int x1, .int x2, .ref 663] 0 i w (pad_nth (n := 5) hw)
    rwa [Nat.zero_add] at this
  have C : Ctx p (headSpec (.codeWith yL_cell cL_cell 5 (some .int) [(0, 10, 13, 13)] :: W0) ({ frames := 1007, cells := 1, slots := 6, locals := 40280 })).room s m (([.ref 0, .int x1, .int x2, .ref 663] : List Value).map (rV B sa)).toArray meth c B sa cy dC dI SA 12 0 999 5 RL cL_cell := ⟨B9.exec, B9.bytes, hml, rfl, hown, hts, hI, (fun q => by cases q), Nat.le_refl _, Nat.le_refl _⟩
  refine many_ok (n := 0) (pc := 0) (vs := [some (.ref 0), some (.int x1), some (.int x2), some (.ref 663), none]) (st := []) (M := M) hlib C ck_l 5 (pc' := 5) (vs' := [some (.ref 0), some (.int x1), some (.int x2), some (.ref 663), none]) (st' := [.int x2, .int x1, .ref 0, .int 0, .ref 663]) (M' := M) (c0 := 0) (s0 := 0) rfl (Nat.zero_le _) (Nat.zero_le _) ?_ s.heap [] ls hP va_S.rf hsz hL
  clear hP hsz hL hlv ls
  intro H locs ls hP hS hsz hL
  refine W.sz (fun hz => ?_)
  have hH := world_size hI hP hS hsz hz
  obtain ⟨-, l9, h9, -⟩ := id hL
  have hpre : PreV s H RX10 (B + 0) (PcX B sa cy dC dI SA [.ref 0, .int x1, .int x2] M) ([.int x1, .int x2] : List Value) := by
    obtain ⟨-, p2, p3⟩ := pre_v (M := M) (as := [.int x1, .int x2]) (a := 0) (o2 := 10) (C := RX10) hr0.choose_spec (by decide) rfl hI hP hS hH
    refine ⟨pcx_blind, p2, fun U hU hW => ⟨p3 U hU hW, hXt.next hW (fun a ha => ?_)⟩⟩
    rw [hU]
    exact hS.2.1 a (Nat.lt_of_lt_of_le ha hI.2.2.2.2.1) (Nat.not_le.mpr ha)
  refine vx_calli (a := ([.ref (B + 0), .int x1, .int x2] : List Value).toArray) (vx_runV (C := RX10) (b := B + 0) (As := [.int x1, .int x2]) (rest := [.int 0, .ref (B + 663)]) (cc := cL_cell) (nL := 5) ⟨B9.exec, B9.bytes, hml, hown, hts⟩ (met_throw hl hlib hr0 h) (cw_cell hts (Nat.le_refl _) (Nat.le_of_ble_eq_true rfl)) hpre rfl rfl h9.1 rfl (show 0 + (1 + (1 + 0)) ≤ 8 by decide) d_l5 ⟨Nat.le_refl _, Nat.le_refl _⟩) hS (fun _ _ h => h) (fun _ h => h) (fun _ _ h => h) ?_ ?_
  · intro E ce q9 u t H1 locs1 ht hal _ hB hz1 hq1 hS1 hce hcv hcl
    obtain ⟨hE, hB⟩ := hB
    subst hE
    refine vx_catch (own := RL) (name := exN) (E := exN) hown [] ⟨0, 10, 13, 13⟩ [] (by rw [htb]; rfl) (fun z hz => nomatch hz) rfl (by decide) (hts _ ew_5) (va_Nw.use rfl (hXt.2.2.2 _ ew_c)) hce hcv hcl ?_
    refine lv_astore B9.exec B9.bytes d_l13 h9 (by decide) rfl (fun ls' hl' => ?_)
    refine lv_iconst B9.exec B9.bytes d_l15 rfl ?_
    exact W.iret B9.exec B9.bytes B9.returns (fun t9 ht9 hW => ⟨⟨1, (), rfl, rfl, by rw [ht9, ← ht]; exact hB.1, by rw [ht9, ← ht]; exact hB.2⟩, hS1.F ht9⟩) hS1.2.2 d_l16 B9.notSynchronized
  · intro r u t H1 locs1 ht hal hpost
    exact absurd hpost (fun q => q)
end CEL
theorem nat_of {x lo hi : Int32} (h1 : ¬ x < lo) (h2 : ¬ hi < x) (h0 : 0 ≤ lo.toInt) : ∃ n : Nat, lo.toInt ≤ (n : Int) ∧ (n : Int) ≤ hi.toInt ∧ n < 2 ^ 31 ∧ x = nI n := by
  simp only [Int32.lt_iff_toInt_lt] at h1 h2
  have h3 := Int32.toInt_lt x
  refine ⟨x.toInt.toNat, by omega, by omega, by omega, ?_⟩
  apply Int32.toInt_inj.mp
  rw [nI_toInt (by omega)]
  omega
theorem within_in {sc : Sta} {e : Nat} {M : Mem} {x lo hi : Int32} (h1 : ¬ x < lo) (h2 : ¬ hi < x) : Ev sc e 126 0 [some (.int x), some (.int lo), some (.int hi)] [] M (some (.int 1)) M 0 0 := by
  refine Ev.step (pc' := if x < lo then 14 else 5) (ls' := [some (.int x), some (.int lo), some (.int hi)]) (st' := []) (M1 := M) 3 (fun n => rfl) ?_
  rw [if_neg h1]
  refine Ev.step (pc' := if hi < x then 14 else 10) (ls' := [some (.int x), some (.int lo), some (.int hi)]) (st' := []) (M1 := M) 3 (fun n => rfl) ?_
  rw [if_neg h2]
  refine Ev.step (pc' := 15) (ls' := [some (.int x), some (.int lo), some (.int hi)]) (st' := [.int 1]) (M1 := M) 2 (fun n => rfl) ?_
  exact Ev.ret (fun n => rfl)
theorem within_lo {sc : Sta} {e : Nat} {M : Mem} {x lo hi : Int32} (h1 : x < lo) : Ev sc e 126 0 [some (.int x), some (.int lo), some (.int hi)] [] M (some (.int 0)) M 0 0 := by
  refine Ev.step (pc' := if x < lo then 14 else 5) (ls' := [some (.int x), some (.int lo), some (.int hi)]) (st' := []) (M1 := M) 3 (fun n => rfl) ?_
  rw [if_pos h1]
  refine Ev.step (pc' := 15) (ls' := [some (.int x), some (.int lo), some (.int hi)]) (st' := [.int 0]) (M1 := M) 1 (fun n => rfl) ?_
  exact Ev.ret (fun n => rfl)
theorem within_hi {sc : Sta} {e : Nat} {M : Mem} {x lo hi : Int32} (h1 : ¬ x < lo) (h2 : hi < x) : Ev sc e 126 0 [some (.int x), some (.int lo), some (.int hi)] [] M (some (.int 0)) M 0 0 := by
  refine Ev.step (pc' := if x < lo then 14 else 5) (ls' := [some (.int x), some (.int lo), some (.int hi)]) (st' := []) (M1 := M) 3 (fun n => rfl) ?_
  rw [if_neg h1]
  refine Ev.step (pc' := if hi < x then 14 else 10) (ls' := [some (.int x), some (.int lo), some (.int hi)]) (st' := []) (M1 := M) 3 (fun n => rfl) ?_
  rw [if_pos h2]
  refine Ev.step (pc' := 15) (ls' := [some (.int x), some (.int lo), some (.int hi)]) (st' := [.int 0]) (M1 := M) 1 (fun n => rfl) ?_
  exact Ev.ret (fun n => rfl)
/-- is it a cell: the class's question, as a contract -/
def kXic : CN := (127, 1, [.inr 1, .inl (.negSucc 2147483647, .ofNat 2147483647)], [], [], [], [(some (.inl (.ofNat 0, .ofNat 0)), [], [], [], []), (some (.inl (.ofNat 1, .ofNat 1)), [(1, (.ofNat 0, .ofNat 255))], [], [], [])])
set_option maxRecDepth 100000 in
theorem kXic_ok : cnOK sT sG FL0 kXic := ccM_V (Δ := []) (n := 80) (N := 4) (cuts := []) sU_ok dp0_ok ct0_ok nil_ok (by decide +kernel)
def kXiw : CN := (131, 0, [.inr 1, .inl (.ofNat 0, .ofNat 255)], [], [], [], [(some (.inl (.ofNat 0, .ofNat 1)), [], [], [], [])])
set_option maxRecDepth 100000 in
theorem kXiw_ok : cnOK sT sG FL0 kXiw := ccM_V (Δ := []) (n := 80) (N := 4) (cuts := []) sU_ok dp0_ok ct0_ok nil_ok (by decide +kernel)
set_option maxRecDepth 100000 in
theorem mR_iw : (gNth mRs 127).map (fun q => q.2.2.2.1) = some 2 ∧ (gNth mRs 131).map (fun q => q.2.2.2.1) = some 2 := by refine ⟨?_, ?_⟩ <;> decide +kernel
theorem rs_9i {p : Iv} {v : Option Value} (h : rsOK sT (some (.inl p)) v) : ∃ y : Int32, v = some (.int y) ∧ p.1 ≤ y.toInt ∧ y.toInt ≤ p.2 := by
  cases v with
  | none => exact h.elim
  | some w =>
    obtain ⟨y, rfl, h1, h2⟩ := h
    exact ⟨y, rfl, h1, h2⟩
theorem use_cs {c : CN} {k d : Nat} {M : Mem} {ws : List Value} (hc : cnOK sT sG FL0 c) (hm : (gNth mRs c.1).map (fun q => q.2.2.2.1) = some k) (h3 : c.2.2.2.1 = []) (h4 : c.2.2.2.2.1 = []) (h5 : c.2.2.2.2.2.1 = []) (hd : c.2.1 ≤ d) (ha : Two (taOK sT) c.2.2.1 ws) (hT : TM sT sG M) : ∃ v, Ev none d c.1 0 (gPad k (gArgs ws)) [] M v M 0 0 ∧ ∃ s ∈ c.2.2.2.2.2.2, csOK sT FL0 ws v M s := by
  cases hq : gNth mRs c.1 with
  | none => rw [hq] at hm; cases hm
  | some q =>
    rw [hq] at hm
    have hm : q.2.2.2.1 = k := Option.some.inj hm
    obtain ⟨v, M', e1, e2, e3, s, e4, e5, _⟩ := hc d M ws q hd hq ha ⟨[], by rw [h3]; trivial, by rw [h4]; exact fun f hf => by cases hf⟩ hT
    rw [hm] at e1
    rw [h5] at e3
    have e6 := frm_nil e3
    subst e6
    exact ⟨v, e1, s, e4, e5⟩
theorem isc_g {M : Mem} (hT : TM sT sG M) (x : Int32) : Ev none 997 127 0 [some (.ref 0), some (.int x)] [] M (some (.int 0)) M 0 0 ∨ (Ev none 997 127 0 [some (.ref 0), some (.int x)] [] M (some (.int 1)) M 0 0 ∧ 0 ≤ x.toInt ∧ x.toInt ≤ 255) := by
  obtain ⟨v, h1, s, h2, h3, h4, _⟩ := use_cs (d := 997) (ws := [.ref 0, .int x]) kXic_ok mR_iw.1 rfl rfl rfl (by decide) (Two.mk rfl (Two.mk ⟨x, rfl, i32_any x⟩ trivial)) hT
  rcases List.mem_cons.mp h2 with rfl | h2
  · obtain ⟨y, rfl, y1, y2⟩ := rs_9i h3
    have y3 : y = 0 := Int32.toInt_inj.mp (by
      have y1 : (0 : Int) ≤ y.toInt := y1
      have y2 : y.toInt ≤ (0 : Int) := y2
      have o : (0 : Int32).toInt = 0 := rfl
      omega)
    subst y3
    exact Or.inl h1
  · cases List.mem_singleton.mp h2
    obtain ⟨y, rfl, y1, y2⟩ := rs_9i h3
    have y3 : y = 1 := Int32.toInt_inj.mp (by
      have y1 : (1 : Int) ≤ y.toInt := y1
      have y2 : y.toInt ≤ (1 : Int) := y2
      have o : (1 : Int32).toInt = 1 := rfl
      omega)
    subst y3
    obtain ⟨x', e, e1, e2⟩ := h4 _ (List.mem_singleton.mpr rfl)
    cases e
    exact Or.inr ⟨h1, e1, e2⟩
theorem isw_g {M : Mem} (hT : TM sT sG M) {x : Int32} (x0 : 0 ≤ x.toInt) (x1 : x.toInt ≤ 255) : ∃ w : Int32, Ev none 997 131 0 [some (.ref 0), some (.int x)] [] M (some (.int w)) M 0 0 ∧ (w = 0 ∨ w = 1) := by
  obtain ⟨v, h1, s, h2, h3, _⟩ := use_cs (d := 997) (ws := [.ref 0, .int x]) kXiw_ok mR_iw.2 rfl rfl rfl (by decide) (Two.mk rfl (Two.mk ⟨x, rfl, x0, x1⟩ trivial)) hT
  cases List.mem_singleton.mp h2
  obtain ⟨y, rfl, y1, y2⟩ := rs_9i h3
  have y1 : (0 : Int) ≤ y.toInt := y1
  have y2 : y.toInt ≤ (1 : Int) := y2
  refine ⟨y, h1, ?_⟩
  have o : (0 : Int32).toInt = 0 := rfl
  have o1 : (1 : Int32).toInt = 1 := rfl
  by_cases h : y.toInt = 0
  · exact Or.inl (Int32.toInt_inj.mp (by omega))
  · exact Or.inr (Int32.toInt_inj.mp (by omega))
theorem one_g {SA : Sta} {n d o kf : Nat} {tab : List (Nat × Nat × Instr)} {pc kd : Nat} {i : Instr} {ls : Lo} {st st' : List Value} {M M' : Mem} (hl : gLook tab pc = some (kd, i)) (hk : kd = 3 ∨ kd = 4) (hg : gGet i SA o (Nat.beq kf 2) st M = some (st', M')) : gOne SA n d o kf tab pc ls st M = some (pc + gLen i, ls, st', M', 0, 0) := by
  rcases hk with rfl | rfl <;>
  · unfold gOne
    rw [hl]
    dsimp only
    rw [hg]
    rfl
theorem mn_s {SA : Sta} {n d o kf : Nat} {tab : List (Nat × Nat × Instr)} {pc pc1 pc2 k : Nat} {ls ls1 ls2 : Lo} {st st1 st2 : List Value} {M M1 M2 : Mem} (h1 : gOne SA n d o kf tab pc ls st M = some (pc1, ls1, st1, M1, 0, 0)) (h2 : gMany SA n d o kf tab k pc1 ls1 st1 M1 = some (pc2, ls2, st2, M2, 0, 0)) : gMany SA n d o kf tab (k + 1) pc ls st M = some (pc2, ls2, st2, M2, 0, 0) := by
  show (match gOne SA n d o kf tab pc ls st M with
    | some (pc', ls', st', M', c, s) => match gMany SA n d o kf tab k pc' ls' st' M' with
      | some (pc2, ls2, st2, M2, c2, s2) => some (pc2, ls2, st2, M2, c + c2, s + s2)
      | none => none
    | none => none) = _
  rw [h1]
  dsimp only
  rw [h2]
section CET
variable {SA : Sta} {M : Mem} {x1 : Int32}
set_option maxRecDepth 100000 in
theorem ly_c3 : fdB 22 7 2 28 = true ∧ fiB 28 6 11 (-2147483648) 2147483647 = true := by refine ⟨?_, ?_⟩ <;> decide +kernel
set_option maxRecDepth 100000 in
theorem ly_r0 : fdB 8 1 2 9 = true ∧ irB 9 256 (-2147483648) 2147483647 = true := by refine ⟨?_, ?_⟩ <;> decide +kernel
set_option maxRecDepth 100000 in
theorem ly_r1 : fdB 8 1 3 10 = true ∧ irB 10 256 (-2147483648) 2147483647 = true := by refine ⟨?_, ?_⟩ <;> decide +kernel
set_option maxRecDepth 100000 in
theorem ly_r2 : fdB 8 1 4 11 = true ∧ irB 11 256 (-2147483648) 2147483647 = true := by refine ⟨?_, ?_⟩ <;> decide +kernel
set_option maxRecDepth 100000 in
theorem ly_r3 : fdB 8 1 5 12 = true ∧ irB 12 256 (-2147483648) 2147483647 = true := by refine ⟨?_, ?_⟩ <;> decide +kernel
set_option maxRecDepth 100000 in
theorem ly_r4 : fdB 8 1 6 13 = true ∧ irB 13 256 (-2147483648) 2147483647 = true := by refine ⟨?_, ?_⟩ <;> decide +kernel
set_option maxRecDepth 100000 in
theorem ly_r5 : fdB 8 1 7 14 = true ∧ irB 14 256 (-2147483648) 2147483647 = true := by refine ⟨?_, ?_⟩ <;> decide +kernel
set_option maxRecDepth 100000 in
theorem ly_r6 : fdB 8 1 8 15 = true ∧ irB 15 256 (-2147483648) 2147483647 = true := by refine ⟨?_, ?_⟩ <;> decide +kernel
def CTail (SA : Sta) (M : Mem) (x1 : Int32) (k : Nat) : Prop := ∃ (n j pc' : Nat) (v : Int32), gMany SA n 998 10 1 mTc j 28 [some (.ref 0), some (.int x1), some (.int (nI k))] [] M = some (pc', [some (.ref 0), some (.int x1), some (.int (nI k))], [.int v], M, 0, 0) ∧ decode cX10_cell pc' = .ok (.ireturn, 1)
set_option maxRecDepth 200000 in
theorem ct_0 (hI : INV M) (c0 : 0 ≤ x1.toInt) (c1 : x1.toInt ≤ 255) : CTail SA M x1 0 := by
  obtain ⟨vs, b, a1, a2, a3⟩ := hI.1.fref sT_00 cl_land
  obtain ⟨vl, r, b1, b2, b3⟩ := hI.1.fref a3 ly_r0.1
  obtain ⟨l, d1, d2, _⟩ := hI.1.irow b3 ly_r0.2
  obtain ⟨nn, hnn⟩ : ∃ nn : Nat, x1.toInt = (nn : Int) := ⟨x1.toInt.toNat, by omega⟩
  obtain ⟨y, y1, _⟩ := at_c (l := l) hnn (by omega)
  refine ⟨0, 7, 85, y, ?_, by decide +kernel⟩
  refine mn_s (pc1 := 29) (ls1 := [some (.ref 0), some (.int x1), some (.int (nI 0))]) (st1 := [.int (nI 0)]) (M1 := M) rfl ?_
  refine mn_s (pc1 := 76) (ls1 := [some (.ref 0), some (.int x1), some (.int (nI 0))]) (st1 := []) (M1 := M) rfl ?_
  refine mn_s (pc1 := 77) (ls1 := [some (.ref 0), some (.int x1), some (.int (nI 0))]) (st1 := [.ref 0]) (M1 := M) rfl ?_
  refine mn_s (one_g (i := .getfield 28) rfl (Or.inl rfl) (gf_c (ini := false) rfl a1 a2)) ?_
  refine mn_s (one_g (i := .getfield 214) rfl (Or.inl rfl) (gf_c (ini := false) rfl b1 b2)) ?_
  refine mn_s (pc1 := 84) (ls1 := [some (.ref 0), some (.int x1), some (.int (nI 0))]) (st1 := [.int x1, .ref r]) (M1 := M) rfl ?_
  exact mn_s (k := 0) (one_g (i := .iaload) rfl (Or.inl rfl) (ia_c (o := 10) (ini := false) d1 y1)) rfl
set_option maxRecDepth 200000 in
theorem ct_1 (hI : INV M) (c0 : 0 ≤ x1.toInt) (c1 : x1.toInt ≤ 255) : CTail SA M x1 1 := by
  obtain ⟨vs, b, a1, a2, a3⟩ := hI.1.fref sT_00 cl_land
  obtain ⟨vl, r, b1, b2, b3⟩ := hI.1.fref a3 ly_r1.1
  obtain ⟨l, d1, d2, _⟩ := hI.1.irow b3 ly_r1.2
  obtain ⟨nn, hnn⟩ : ∃ nn : Nat, x1.toInt = (nn : Int) := ⟨x1.toInt.toNat, by omega⟩
  obtain ⟨y, y1, _⟩ := at_c (l := l) hnn (by omega)
  refine ⟨0, 7, 95, y, ?_, by decide +kernel⟩
  refine mn_s (pc1 := 29) (ls1 := [some (.ref 0), some (.int x1), some (.int (nI 1))]) (st1 := [.int (nI 1)]) (M1 := M) rfl ?_
  refine mn_s (pc1 := 86) (ls1 := [some (.ref 0), some (.int x1), some (.int (nI 1))]) (st1 := []) (M1 := M) rfl ?_
  refine mn_s (pc1 := 87) (ls1 := [some (.ref 0), some (.int x1), some (.int (nI 1))]) (st1 := [.ref 0]) (M1 := M) rfl ?_
  refine mn_s (one_g (i := .getfield 28) rfl (Or.inl rfl) (gf_c (ini := false) rfl a1 a2)) ?_
  refine mn_s (one_g (i := .getfield 249) rfl (Or.inl rfl) (gf_c (ini := false) rfl b1 b2)) ?_
  refine mn_s (pc1 := 94) (ls1 := [some (.ref 0), some (.int x1), some (.int (nI 1))]) (st1 := [.int x1, .ref r]) (M1 := M) rfl ?_
  exact mn_s (k := 0) (one_g (i := .iaload) rfl (Or.inl rfl) (ia_c (o := 10) (ini := false) d1 y1)) rfl
set_option maxRecDepth 200000 in
theorem ct_2 (hI : INV M) (c0 : 0 ≤ x1.toInt) (c1 : x1.toInt ≤ 255) : CTail SA M x1 2 := by
  obtain ⟨vs, b, a1, a2, a3⟩ := hI.1.fref sT_00 cl_land
  obtain ⟨vl, r, b1, b2, b3⟩ := hI.1.fref a3 ly_r2.1
  obtain ⟨l, d1, d2, _⟩ := hI.1.irow b3 ly_r2.2
  obtain ⟨nn, hnn⟩ : ∃ nn : Nat, x1.toInt = (nn : Int) := ⟨x1.toInt.toNat, by omega⟩
  obtain ⟨y, y1, _⟩ := at_c (l := l) hnn (by omega)
  refine ⟨0, 7, 105, y, ?_, by decide +kernel⟩
  refine mn_s (pc1 := 29) (ls1 := [some (.ref 0), some (.int x1), some (.int (nI 2))]) (st1 := [.int (nI 2)]) (M1 := M) rfl ?_
  refine mn_s (pc1 := 96) (ls1 := [some (.ref 0), some (.int x1), some (.int (nI 2))]) (st1 := []) (M1 := M) rfl ?_
  refine mn_s (pc1 := 97) (ls1 := [some (.ref 0), some (.int x1), some (.int (nI 2))]) (st1 := [.ref 0]) (M1 := M) rfl ?_
  refine mn_s (one_g (i := .getfield 28) rfl (Or.inl rfl) (gf_c (ini := false) rfl a1 a2)) ?_
  refine mn_s (one_g (i := .getfield 252) rfl (Or.inl rfl) (gf_c (ini := false) rfl b1 b2)) ?_
  refine mn_s (pc1 := 104) (ls1 := [some (.ref 0), some (.int x1), some (.int (nI 2))]) (st1 := [.int x1, .ref r]) (M1 := M) rfl ?_
  exact mn_s (k := 0) (one_g (i := .iaload) rfl (Or.inl rfl) (ia_c (o := 10) (ini := false) d1 y1)) rfl
set_option maxRecDepth 200000 in
theorem ct_3 (hI : INV M) (c0 : 0 ≤ x1.toInt) (c1 : x1.toInt ≤ 255) : CTail SA M x1 3 := by
  obtain ⟨vs, b, a1, a2, a3⟩ := hI.1.fref sT_00 cl_land
  obtain ⟨vl, r, b1, b2, b3⟩ := hI.1.fref a3 ly_r3.1
  obtain ⟨l, d1, d2, _⟩ := hI.1.irow b3 ly_r3.2
  obtain ⟨nn, hnn⟩ : ∃ nn : Nat, x1.toInt = (nn : Int) := ⟨x1.toInt.toNat, by omega⟩
  obtain ⟨y, y1, _⟩ := at_c (l := l) hnn (by omega)
  refine ⟨0, 7, 115, y, ?_, by decide +kernel⟩
  refine mn_s (pc1 := 29) (ls1 := [some (.ref 0), some (.int x1), some (.int (nI 3))]) (st1 := [.int (nI 3)]) (M1 := M) rfl ?_
  refine mn_s (pc1 := 106) (ls1 := [some (.ref 0), some (.int x1), some (.int (nI 3))]) (st1 := []) (M1 := M) rfl ?_
  refine mn_s (pc1 := 107) (ls1 := [some (.ref 0), some (.int x1), some (.int (nI 3))]) (st1 := [.ref 0]) (M1 := M) rfl ?_
  refine mn_s (one_g (i := .getfield 28) rfl (Or.inl rfl) (gf_c (ini := false) rfl a1 a2)) ?_
  refine mn_s (one_g (i := .getfield 255) rfl (Or.inl rfl) (gf_c (ini := false) rfl b1 b2)) ?_
  refine mn_s (pc1 := 114) (ls1 := [some (.ref 0), some (.int x1), some (.int (nI 3))]) (st1 := [.int x1, .ref r]) (M1 := M) rfl ?_
  exact mn_s (k := 0) (one_g (i := .iaload) rfl (Or.inl rfl) (ia_c (o := 10) (ini := false) d1 y1)) rfl
set_option maxRecDepth 200000 in
theorem ct_4 (hI : INV M) (c0 : 0 ≤ x1.toInt) (c1 : x1.toInt ≤ 255) : CTail SA M x1 4 := by
  obtain ⟨vs, b, a1, a2, a3⟩ := hI.1.fref sT_00 cl_land
  obtain ⟨vl, r, b1, b2, b3⟩ := hI.1.fref a3 ly_r4.1
  obtain ⟨l, d1, d2, _⟩ := hI.1.irow b3 ly_r4.2
  obtain ⟨nn, hnn⟩ : ∃ nn : Nat, x1.toInt = (nn : Int) := ⟨x1.toInt.toNat, by omega⟩
  obtain ⟨y, y1, _⟩ := at_c (l := l) hnn (by omega)
  refine ⟨0, 7, 125, y, ?_, by decide +kernel⟩
  refine mn_s (pc1 := 29) (ls1 := [some (.ref 0), some (.int x1), some (.int (nI 4))]) (st1 := [.int (nI 4)]) (M1 := M) rfl ?_
  refine mn_s (pc1 := 116) (ls1 := [some (.ref 0), some (.int x1), some (.int (nI 4))]) (st1 := []) (M1 := M) rfl ?_
  refine mn_s (pc1 := 117) (ls1 := [some (.ref 0), some (.int x1), some (.int (nI 4))]) (st1 := [.ref 0]) (M1 := M) rfl ?_
  refine mn_s (one_g (i := .getfield 28) rfl (Or.inl rfl) (gf_c (ini := false) rfl a1 a2)) ?_
  refine mn_s (one_g (i := .getfield 217) rfl (Or.inl rfl) (gf_c (ini := false) rfl b1 b2)) ?_
  refine mn_s (pc1 := 124) (ls1 := [some (.ref 0), some (.int x1), some (.int (nI 4))]) (st1 := [.int x1, .ref r]) (M1 := M) rfl ?_
  exact mn_s (k := 0) (one_g (i := .iaload) rfl (Or.inl rfl) (ia_c (o := 10) (ini := false) d1 y1)) rfl
set_option maxRecDepth 200000 in
theorem ct_5 (hI : INV M) (c0 : 0 ≤ x1.toInt) (c1 : x1.toInt ≤ 255) : CTail SA M x1 5 := by
  obtain ⟨vs, b, a1, a2, a3⟩ := hI.1.fref sT_00 cl_land
  obtain ⟨vl, r, b1, b2, b3⟩ := hI.1.fref a3 ly_r5.1
  obtain ⟨l, d1, d2, _⟩ := hI.1.irow b3 ly_r5.2
  obtain ⟨nn, hnn⟩ : ∃ nn : Nat, x1.toInt = (nn : Int) := ⟨x1.toInt.toNat, by omega⟩
  obtain ⟨y, y1, _⟩ := at_c (l := l) hnn (by omega)
  refine ⟨0, 7, 135, y, ?_, by decide +kernel⟩
  refine mn_s (pc1 := 29) (ls1 := [some (.ref 0), some (.int x1), some (.int (nI 5))]) (st1 := [.int (nI 5)]) (M1 := M) rfl ?_
  refine mn_s (pc1 := 126) (ls1 := [some (.ref 0), some (.int x1), some (.int (nI 5))]) (st1 := []) (M1 := M) rfl ?_
  refine mn_s (pc1 := 127) (ls1 := [some (.ref 0), some (.int x1), some (.int (nI 5))]) (st1 := [.ref 0]) (M1 := M) rfl ?_
  refine mn_s (one_g (i := .getfield 28) rfl (Or.inl rfl) (gf_c (ini := false) rfl a1 a2)) ?_
  refine mn_s (one_g (i := .getfield 258) rfl (Or.inl rfl) (gf_c (ini := false) rfl b1 b2)) ?_
  refine mn_s (pc1 := 134) (ls1 := [some (.ref 0), some (.int x1), some (.int (nI 5))]) (st1 := [.int x1, .ref r]) (M1 := M) rfl ?_
  exact mn_s (k := 0) (one_g (i := .iaload) rfl (Or.inl rfl) (ia_c (o := 10) (ini := false) d1 y1)) rfl
set_option maxRecDepth 200000 in
theorem ct_6 (hI : INV M) (c0 : 0 ≤ x1.toInt) (c1 : x1.toInt ≤ 255) : CTail SA M x1 6 := by
  obtain ⟨vs, b, a1, a2, a3⟩ := hI.1.fref sT_00 cl_land
  obtain ⟨vl, r, b1, b2, b3⟩ := hI.1.fref a3 ly_r6.1
  obtain ⟨l, d1, d2, _⟩ := hI.1.irow b3 ly_r6.2
  obtain ⟨nn, hnn⟩ : ∃ nn : Nat, x1.toInt = (nn : Int) := ⟨x1.toInt.toNat, by omega⟩
  obtain ⟨y, y1, _⟩ := at_c (l := l) hnn (by omega)
  refine ⟨0, 7, 145, y, ?_, by decide +kernel⟩
  refine mn_s (pc1 := 29) (ls1 := [some (.ref 0), some (.int x1), some (.int (nI 6))]) (st1 := [.int (nI 6)]) (M1 := M) rfl ?_
  refine mn_s (pc1 := 136) (ls1 := [some (.ref 0), some (.int x1), some (.int (nI 6))]) (st1 := []) (M1 := M) rfl ?_
  refine mn_s (pc1 := 137) (ls1 := [some (.ref 0), some (.int x1), some (.int (nI 6))]) (st1 := [.ref 0]) (M1 := M) rfl ?_
  refine mn_s (one_g (i := .getfield 28) rfl (Or.inl rfl) (gf_c (ini := false) rfl a1 a2)) ?_
  refine mn_s (one_g (i := .getfield 226) rfl (Or.inl rfl) (gf_c (ini := false) rfl b1 b2)) ?_
  refine mn_s (pc1 := 144) (ls1 := [some (.ref 0), some (.int x1), some (.int (nI 6))]) (st1 := [.int x1, .ref r]) (M1 := M) rfl ?_
  exact mn_s (k := 0) (one_g (i := .iaload) rfl (Or.inl rfl) (ia_c (o := 10) (ini := false) d1 y1)) rfl
set_option maxRecDepth 200000 in
theorem ct_7 (hI : INV M) (c0 : 0 ≤ x1.toInt) (c1 : x1.toInt ≤ 255) : CTail SA M x1 7 := by
  obtain ⟨w, hw, hw1⟩ := isw_g hI.1 c0 c1
  obtain ⟨n, hw⟩ := hw.any SA
  rcases hw1 with rfl | rfl
  · refine ⟨n, 7, 159, 0, ?_, by decide +kernel⟩
    refine mn_s (pc1 := 29) (ls1 := [some (.ref 0), some (.int x1), some (.int (nI 7))]) (st1 := [.int (nI 7)]) (M1 := M) rfl ?_
    refine mn_s (pc1 := 146) (ls1 := [some (.ref 0), some (.int x1), some (.int (nI 7))]) (st1 := []) (M1 := M) rfl ?_
    refine mn_s (pc1 := 147) (ls1 := [some (.ref 0), some (.int x1), some (.int (nI 7))]) (st1 := [.ref 0]) (M1 := M) rfl ?_
    refine mn_s (pc1 := 148) (ls1 := [some (.ref 0), some (.int x1), some (.int (nI 7))]) (st1 := [.int x1, .ref 0]) (M1 := M) rfl ?_
    refine mn_s (one_call (i := .invokevirtual 261) rfl (cal_9w hI.r0) hw) ?_
    refine mn_s (pc1 := 158) (ls1 := [some (.ref 0), some (.int x1), some (.int (nI 7))]) (st1 := []) (M1 := M) rfl ?_
    exact mn_s (k := 0) (pc1 := 159) (ls1 := [some (.ref 0), some (.int x1), some (.int (nI 7))]) (st1 := [.int 0]) (M1 := M) rfl rfl
  · refine ⟨n, 8, 159, 1, ?_, by decide +kernel⟩
    refine mn_s (pc1 := 29) (ls1 := [some (.ref 0), some (.int x1), some (.int (nI 7))]) (st1 := [.int (nI 7)]) (M1 := M) rfl ?_
    refine mn_s (pc1 := 146) (ls1 := [some (.ref 0), some (.int x1), some (.int (nI 7))]) (st1 := []) (M1 := M) rfl ?_
    refine mn_s (pc1 := 147) (ls1 := [some (.ref 0), some (.int x1), some (.int (nI 7))]) (st1 := [.ref 0]) (M1 := M) rfl ?_
    refine mn_s (pc1 := 148) (ls1 := [some (.ref 0), some (.int x1), some (.int (nI 7))]) (st1 := [.int x1, .ref 0]) (M1 := M) rfl ?_
    refine mn_s (one_call (i := .invokevirtual 261) rfl (cal_9w hI.r0) hw) ?_
    refine mn_s (pc1 := 154) (ls1 := [some (.ref 0), some (.int x1), some (.int (nI 7))]) (st1 := []) (M1 := M) rfl ?_
    refine mn_s (pc1 := 155) (ls1 := [some (.ref 0), some (.int x1), some (.int (nI 7))]) (st1 := [.int 1]) (M1 := M) rfl ?_
    exact mn_s (k := 0) (pc1 := 159) (ls1 := [some (.ref 0), some (.int x1), some (.int (nI 7))]) (st1 := [.int 1]) (M1 := M) rfl rfl
set_option maxRecDepth 200000 in
theorem ct_8 (hI : INV M) (c0 : 0 ≤ x1.toInt) (c1 : x1.toInt ≤ 255) : CTail SA M x1 8 := by
  obtain ⟨w, hw, hw1⟩ := isw_g hI.1 c0 c1
  obtain ⟨n, hw⟩ := hw.any SA
  obtain ⟨vs, b, a1, a2, a3⟩ := hI.1.fref sT_00 cl_land
  obtain ⟨vl, r, b1, b2, b3⟩ := hI.1.fref a3 ly_r4.1
  obtain ⟨l, d1, d2, _⟩ := hI.1.irow b3 ly_r4.2
  obtain ⟨nn, hnn⟩ : ∃ nn : Nat, x1.toInt = (nn : Int) := ⟨x1.toInt.toNat, by omega⟩
  obtain ⟨y, y1, _⟩ := at_c (l := l) hnn (by omega)
  obtain ⟨vs2, bw, e1, e2, e3⟩ := hI.1.fref sT_00 cl_walk
  obtain ⟨vw, bl, f1, f2, f3⟩ := hI.1.fref e3 ly_c3.1
  obtain ⟨vz, z, g1, g2, _⟩ := hI.1.fnum f3 ly_c3.2
  rcases hw1 with rfl | rfl
  · refine ⟨n, 7, 195, 0, ?_, by decide +kernel⟩
    refine mn_s (pc1 := 29) (ls1 := [some (.ref 0), some (.int x1), some (.int (nI 8))]) (st1 := [.int (nI 8)]) (M1 := M) rfl ?_
    refine mn_s (pc1 := 160) (ls1 := [some (.ref 0), some (.int x1), some (.int (nI 8))]) (st1 := []) (M1 := M) rfl ?_
    refine mn_s (pc1 := 161) (ls1 := [some (.ref 0), some (.int x1), some (.int (nI 8))]) (st1 := [.ref 0]) (M1 := M) rfl ?_
    refine mn_s (pc1 := 162) (ls1 := [some (.ref 0), some (.int x1), some (.int (nI 8))]) (st1 := [.int x1, .ref 0]) (M1 := M) rfl ?_
    refine mn_s (one_call (i := .invokevirtual 261) rfl (cal_9w hI.r0) hw) ?_
    refine mn_s (pc1 := 194) (ls1 := [some (.ref 0), some (.int x1), some (.int (nI 8))]) (st1 := []) (M1 := M) rfl ?_
    exact mn_s (k := 0) (pc1 := 195) (ls1 := [some (.ref 0), some (.int x1), some (.int (nI 8))]) (st1 := [.int 0]) (M1 := M) rfl rfl
  · by_cases h : y < z
    · refine ⟨n, 17, 195, 0, ?_, by decide +kernel⟩
      refine mn_s (pc1 := 29) (ls1 := [some (.ref 0), some (.int x1), some (.int (nI 8))]) (st1 := [.int (nI 8)]) (M1 := M) rfl ?_
      refine mn_s (pc1 := 160) (ls1 := [some (.ref 0), some (.int x1), some (.int (nI 8))]) (st1 := []) (M1 := M) rfl ?_
      refine mn_s (pc1 := 161) (ls1 := [some (.ref 0), some (.int x1), some (.int (nI 8))]) (st1 := [.ref 0]) (M1 := M) rfl ?_
      refine mn_s (pc1 := 162) (ls1 := [some (.ref 0), some (.int x1), some (.int (nI 8))]) (st1 := [.int x1, .ref 0]) (M1 := M) rfl ?_
      refine mn_s (one_call (i := .invokevirtual 261) rfl (cal_9w hI.r0) hw) ?_
      refine mn_s (pc1 := 168) (ls1 := [some (.ref 0), some (.int x1), some (.int (nI 8))]) (st1 := []) (M1 := M) rfl ?_
      refine mn_s (pc1 := 169) (ls1 := [some (.ref 0), some (.int x1), some (.int (nI 8))]) (st1 := [.ref 0]) (M1 := M) rfl ?_
      refine mn_s (one_g (i := .getfield 28) rfl (Or.inl rfl) (gf_c (ini := false) rfl a1 a2)) ?_
      refine mn_s (one_g (i := .getfield 217) rfl (Or.inl rfl) (gf_c (ini := false) rfl b1 b2)) ?_
      refine mn_s (pc1 := 176) (ls1 := [some (.ref 0), some (.int x1), some (.int (nI 8))]) (st1 := [.int x1, .ref r]) (M1 := M) rfl ?_
      refine mn_s (one_g (i := .iaload) rfl (Or.inl rfl) (ia_c (o := 10) (ini := false) d1 y1)) ?_
      refine mn_s (pc1 := 178) (ls1 := [some (.ref 0), some (.int x1), some (.int (nI 8))]) (st1 := [.ref 0, .int y]) (M1 := M) rfl ?_
      refine mn_s (one_g (i := .getfield 37) rfl (Or.inl rfl) (gf_c (ini := false) rfl e1 e2)) ?_
      refine mn_s (one_g (i := .getfield 134) rfl (Or.inl rfl) (gf_c (ini := false) rfl f1 f2)) ?_
      refine mn_s (one_g (i := .getfield 264) rfl (Or.inl rfl) (gf_c (ini := false) rfl g1 g2)) ?_
      refine mn_s (pc1 := if y < z then 194 else 190) (ls1 := [some (.ref 0), some (.int x1), some (.int (nI 8))]) (st1 := []) (M1 := M) rfl ?_
      rw [if_pos h]
      exact mn_s (k := 0) (pc1 := 195) (ls1 := [some (.ref 0), some (.int x1), some (.int (nI 8))]) (st1 := [.int 0]) (M1 := M) rfl rfl
    · refine ⟨n, 18, 195, 1, ?_, by decide +kernel⟩
      refine mn_s (pc1 := 29) (ls1 := [some (.ref 0), some (.int x1), some (.int (nI 8))]) (st1 := [.int (nI 8)]) (M1 := M) rfl ?_
      refine mn_s (pc1 := 160) (ls1 := [some (.ref 0), some (.int x1), some (.int (nI 8))]) (st1 := []) (M1 := M) rfl ?_
      refine mn_s (pc1 := 161) (ls1 := [some (.ref 0), some (.int x1), some (.int (nI 8))]) (st1 := [.ref 0]) (M1 := M) rfl ?_
      refine mn_s (pc1 := 162) (ls1 := [some (.ref 0), some (.int x1), some (.int (nI 8))]) (st1 := [.int x1, .ref 0]) (M1 := M) rfl ?_
      refine mn_s (one_call (i := .invokevirtual 261) rfl (cal_9w hI.r0) hw) ?_
      refine mn_s (pc1 := 168) (ls1 := [some (.ref 0), some (.int x1), some (.int (nI 8))]) (st1 := []) (M1 := M) rfl ?_
      refine mn_s (pc1 := 169) (ls1 := [some (.ref 0), some (.int x1), some (.int (nI 8))]) (st1 := [.ref 0]) (M1 := M) rfl ?_
      refine mn_s (one_g (i := .getfield 28) rfl (Or.inl rfl) (gf_c (ini := false) rfl a1 a2)) ?_
      refine mn_s (one_g (i := .getfield 217) rfl (Or.inl rfl) (gf_c (ini := false) rfl b1 b2)) ?_
      refine mn_s (pc1 := 176) (ls1 := [some (.ref 0), some (.int x1), some (.int (nI 8))]) (st1 := [.int x1, .ref r]) (M1 := M) rfl ?_
      refine mn_s (one_g (i := .iaload) rfl (Or.inl rfl) (ia_c (o := 10) (ini := false) d1 y1)) ?_
      refine mn_s (pc1 := 178) (ls1 := [some (.ref 0), some (.int x1), some (.int (nI 8))]) (st1 := [.ref 0, .int y]) (M1 := M) rfl ?_
      refine mn_s (one_g (i := .getfield 37) rfl (Or.inl rfl) (gf_c (ini := false) rfl e1 e2)) ?_
      refine mn_s (one_g (i := .getfield 134) rfl (Or.inl rfl) (gf_c (ini := false) rfl f1 f2)) ?_
      refine mn_s (one_g (i := .getfield 264) rfl (Or.inl rfl) (gf_c (ini := false) rfl g1 g2)) ?_
      refine mn_s (pc1 := if y < z then 194 else 190) (ls1 := [some (.ref 0), some (.int x1), some (.int (nI 8))]) (st1 := []) (M1 := M) rfl ?_
      rw [if_neg h]
      refine mn_s (pc1 := 191) (ls1 := [some (.ref 0), some (.int x1), some (.int (nI 8))]) (st1 := [.int 1]) (M1 := M) rfl ?_
      exact mn_s (k := 0) (pc1 := 195) (ls1 := [some (.ref 0), some (.int x1), some (.int (nI 8))]) (st1 := [.int 1]) (M1 := M) rfl rfl
theorem ct_all (hI : INV M) (c0 : 0 ≤ x1.toInt) (c1 : x1.toInt ≤ 255) {k : Nat} (hk : k < 9) : CTail SA M x1 k := by
  match k, hk with
  | 0, _ => exact ct_0 hI c0 c1
  | 1, _ => exact ct_1 hI c0 c1
  | 2, _ => exact ct_2 hI c0 c1
  | 3, _ => exact ct_3 hI c0 c1
  | 4, _ => exact ct_4 hI c0 c1
  | 5, _ => exact ct_5 hI c0 c1
  | 6, _ => exact ct_6 hI c0 c1
  | 7, _ => exact ct_7 hI c0 c1
  | 8, _ => exact ct_8 hI c0 c1
  | n + 9, hk => exact absurd hk (by omega)
end CET
set_option maxRecDepth 100000 in
theorem sT_out : gNth sT 663 = some 91 ∧ (match gNth sG 91 with
  | some (.inr (2, 1, _)) => true
  | _ => false) = true := by refine ⟨?_, ?_⟩ <;> decide +kernel
/-- the place for an answer, written -/
theorem INV.out {M : Mem} (hI : INV M) : ∃ l : List Int64, gNth M 663 = some (.inl (2, .inr (.inl l))) ∧ l.length = 1 ∧ ∀ z : Int64, INV (gPut M 663 (.inl (2, .inr (.inl (gPut l 0 z))))) := by
  obtain ⟨hT, hf⟩ := hI
  obtain ⟨s1, s2⟩ := sT_out
  split at s2
  rotate_left
  · cases s2
  rename_i w e
  obtain ⟨ee, e1, e2⟩ := hT.at s1 e
  obtain ⟨l, rfl, l1⟩ := e2
  refine ⟨l, e1, l1, fun z => ?_⟩
  have hF : Frm sT [(1091, 0)] M (gPut M 663 (.inl (2, .inr (.inl (gPut l 0 z))))) := Frm.row e1 s1 (List.mem_singleton.mpr rfl)
  refine ⟨hT.put (fun g t q1 q2 => ?_), fun x hx => ?_⟩
  · rw [s1] at q1
    cases q1
    rw [e] at q2
    cases q2
    exact ⟨_, rfl, by rw [put_len]; exact l1⟩
  · have h9 := hf x hx
    rcases hx with rfl | rfl | rfl | rfl
    · exact dp0_frm 0 24 _ _ _ _ hF (by decide) h9
    · exact dp0_frm 0 28 _ _ _ _ hF (by decide) h9
    · exact dp0_frm 0 32 _ _ _ _ hF (by decide) h9
    · exact dp0_frm 0 34 _ _ _ _ hF (by decide) h9
theorem ls_c {SA : Sta} {o : Nat} {ini : Bool} {M : Mem} {l : List Int64} {r : List Value} {z : Int64} (hM : gNth M 663 = some (.inl (2, .inr (.inl l)))) (hl : l.length = 1) : gGet .lastore SA o ini (.long z :: .int 0 :: .ref 663 :: r) M = some (r, gPut M 663 (.inl (2, .inr (.inl (gPut l 0 z))))) := by
  match l, hl with
  | [y], _ =>
    show (match gNth M 663 with
      | some (.inl (2, .inr (.inl l))) => match gAt l 0 with
        | some _ => some (r, gPut M 663 (.inl (2, .inr (.inl (gPut l (0 : Int32).toNatClampNeg z)))))
        | none => none
      | _ => none) = _
    rw [hM]
    rfl
section CEM
variable {l : Launch} {B : Nat} {sa : Nat → Nat} {cy : Nat → ClassId} {dC : Nat → ClassId} {dI : Nat → Nat → Nat} {SA : Sta} {x1 : Int32} {M : Mem}
set_option maxHeartbeats 8000000 in
set_option maxRecDepth 200000 in
theorem met_ans (hlib : MetLib l B sa cy dC dI SA) (hr0 : ∃ vs, gNth M 0 = some (.inr (10, vs))) (g1 : Ev none 997 127 0 [some (.ref 0), some (.int x1)] [] M (some (.int 1)) M 0 0) {k : Nat} (hk : k < 9) {n9 j9 pc9 : Nat} {v : Int32} (h9 : gMany SA n9 998 10 1 mTc j9 28 [some (.ref 0), some (.int x1), some (.int (nI k))] [] M = some (pc9, [some (.ref 0), some (.int x1), some (.int (nI k))], [.int v], M, 0, 0)) (hd9 : decode cX10_cell pc9 = .ok (.ireturn, 1)) : Met l yX10_cell (.code yX10_cell cX10_cell 3 (some .int) :: W0) ({ frames := 1006, cells := 0, slots := 0, locals := 40240 }) (Pcw B sa cy dC dI SA [.ref 0, .int x1, .int (nI k)] M) (Qcw B sa cy dC dI (some (.int v)) M) 0 0 (fun q => B ≤ q) := by
  refine Met.ofW (cc := cX10_cell) (maxL := 3) (ret := some .int) (by decide +kernel) rfl ?_
  intro p e s m args below meth c s₁ B9 hml hv
  obtain ⟨rfl, hI, hsz, hP⟩ := hv
  have hts : ∀ w ∈ W0, w.before (([.ref 0, .int x1, .int (nI k)] : List Value).map (rV B sa)).toArray s = true := fun w hw => atoms_spec (ws := .code yX10_cell cX10_cell 3 (some .int) :: W0) B9.pre w (List.mem_cons_of_mem _ hw)
  have hown : s.vm.findClass RX10 = some m.cls := findClass_of_methodNamed B9.named
  have hlv := lv_entry (([.ref 0, .int x1, .int (nI k)] : List Value).map (rV B sa)) (n := 3) (Nat.le_refl _)
  rw [lg_entry_eq]
  generalize (lg_sl (([.ref 0, .int x1, .int (nI k)] : List Value).map (rV B sa)) ++ List.replicate (3 - (lg_sl (([.ref 0, .int x1, .int (nI k)] : List Value).map (rV B sa))).length) Slot.unset).toArray = ls at hlv ⊢
  have hL : LV B sa 3 [some (.ref 0), some (.int x1), some (.int (nI k))] ls := by
    refine ⟨rfl, _, hlv, fun i w hw => ?_⟩
    have := args_in B sa [.ref 0, .int x1, .int (nI k)] 0 i w hw
    rwa [Nat.zero_add] at this
  have C : Ctx p (headSpec (.code yX10_cell cX10_cell 3 (some .int) :: W0) ({ frames := 1006, cells := 0, slots := 0, locals := 40240 })).room s m (([.ref 0, .int x1, .int (nI k)] : List Value).map (rV B sa)).toArray meth c B sa cy dC dI SA 10 1 998 3 RX10 cX10_cell := ⟨B9.exec, B9.bytes, hml, rfl, hown, hts, hI, (fun q => by cases q), Nat.le_refl _, Nat.le_refl _⟩
  have hr : ∀ {pc : Nat} {vs : Lo}, decode cX10_cell pc = .ok (.ireturn, 1) → Wst p l e (headSpec (.code yX10_cell cX10_cell 3 (some .int) :: W0) ({ frames := 1006, cells := 0, slots := 0, locals := 40240 })).room s m (([.ref 0, .int x1, .int (nI k)] : List Value).map (rV B sa)).toArray below meth c (MQ below (Qcw B sa cy dC dI (some (.int v)) M) (([.ref 0, .int x1, .int (nI k)] : List Value).map (rV B sa)).toArray s 0 0 (fun q => B ≤ q)) B sa cy dC dI 3 0 0 pc vs [.int v] M := fun hd => ret_W B9.exec B9.bytes B9.returns B9.notSynchronized hI hd
  refine many_ok (n := 0) (pc := 0) (vs := [some (.ref 0), some (.int x1), some (.int (nI k))]) (st := []) (M := M) hlib C ck_c 2 (pc' := 2) (vs' := [some (.ref 0), some (.int x1), some (.int (nI k))]) (st' := [.int x1, .ref 0]) (M' := M) (c0 := 0) (s0 := 0) rfl (Nat.zero_le _) (Nat.zero_le _) ?_ s.heap [] ls hP va_S.rf hsz hL
  obtain ⟨n1, h1⟩ := g1.any SA
  refine one_ok hlib C ck_c (one_call (i := .invokevirtual 113) (id := 127) (ls0 := [some (.ref 0), some (.int x1)]) (rest := []) rfl (cal_9c hr0) h1) (Nat.zero_le _) (Nat.zero_le _) ?_
  refine many_ok (n := 0) hlib C ck_c 4 (pc' := 12) (vs' := [some (.ref 0), some (.int x1), some (.int (nI k))]) (st' := [.int 8, .int 0, .int (nI k)]) (M' := M) (c0 := 0) (s0 := 0) rfl (Nat.zero_le _) (Nat.zero_le _) ?_
  have h2 : ∃ n2, go SA n2 997 126 0 [some (.int (nI k)), some (.int 0), some (.int 8)] [] M = some (some (.int 1), M, 0, 0) := by
    have a : ∀ k : Nat, k < 9 → ¬ nI k < 0 ∧ ¬ 8 < nI k := by decide
    exact within_in (a k hk).1 (a k hk).2
  obtain ⟨n2, h2⟩ := h2
  refine one_ok hlib C ck_c (one_call (i := .invokestatic 103) (id := 126) (ls0 := [some (.int (nI k)), some (.int 0), some (.int 8)]) (rest := []) rfl rfl h2) (Nat.zero_le _) (Nat.zero_le _) ?_
  refine many_ok (n := 0) hlib C ck_c 1 (pc' := 28) (vs' := [some (.ref 0), some (.int x1), some (.int (nI k))]) (st' := []) (M' := M) (c0 := 0) (s0 := 0) rfl (Nat.zero_le _) (Nat.zero_le _) ?_
  exact many_ok hlib C ck_c j9 h9 (Nat.zero_le _) (Nat.zero_le _) (hr hd9)
set_option maxHeartbeats 8000000 in
set_option maxRecDepth 200000 in
theorem met_Lans (hlib : MetLib l B sa cy dC dI SA) (hr0 : ∃ vs, gNth M 0 = some (.inr (10, vs))) (g1 : Ev none 997 127 0 [some (.ref 0), some (.int x1)] [] M (some (.int 1)) M 0 0) {k : Nat} (hk : k < 9) {n9 j9 pc9 : Nat} {v : Int32} (h9 : gMany SA n9 998 10 1 mTc j9 28 [some (.ref 0), some (.int x1), some (.int (nI k))] [] M = some (pc9, [some (.ref 0), some (.int x1), some (.int (nI k))], [.int v], M, 0, 0)) (hd9 : decode cX10_cell pc9 = .ok (.ireturn, 1)) {lo : List Int64} (ho : gNth M 663 = some (.inl (2, .inr (.inl lo)))) (ho1 : lo.length = 1) : Met l yL_cell (.codeWith yL_cell cL_cell 5 (some .int) [(0, 10, 13, 13)] :: W0) ({ frames := 1007, cells := 0, slots := 0, locals := 40280 }) (PcX B sa cy dC dI SA [.ref 0, .int x1, .int (nI k), .ref 663] M) (Qcw B sa cy dC dI (some (.int 0)) (gPut M 663 (.inl (2, .inr (.inl (gPut lo 0 v.toInt64)))))) 0 0 (fun q => B ≤ q) := by
  refine va_MetW (cc := cL_cell) (maxL := 5) (ret := some .int) (hh := [(0, 10, 13, 13)]) (by decide +kernel) rfl ?_
  intro p e s m args below meth c s₁ B9 hml hv
  obtain ⟨⟨rfl, hI, hsz, hP⟩, hXt⟩ := hv
  have hts0 := atoms_spec (ws := .codeWith yL_cell cL_cell 5 (some .int) [(0, 10, 13, 13)] :: W0) B9.pre
  have hts : ∀ w ∈ W0, w.before (([.ref 0, .int x1, .int (nI k), .ref 663] : List Value).map (rV B sa)).toArray s = true := fun w hw => hts0 w (List.mem_cons_of_mem _ hw)
  have hown : s.vm.findClass RL = some m.cls := findClass_of_methodNamed B9.named
  have hlv := lv_entry (([.ref 0, .int x1, .int (nI k), .ref 663] : List Value).map (rV B sa)) (n := 5) (show 4 ≤ 5 by decide)
  rw [lg_entry_eq]
  generalize (lg_sl (([.ref 0, .int x1, .int (nI k), .ref 663] : List Value).map (rV B sa)) ++ List.replicate (5 - (lg_sl (([.ref 0, .int x1, .int (nI k), .ref 663] : List Value).map (rV B sa))).length) Slot.unset).toArray = ls at hlv ⊢
  have hL : LV B sa 5 [some (.ref 0), some (.int x1), some (.int (nI k)), some (.ref 663), none] ls := by
    refine ⟨rfl, _, hlv, fun i w hw => ?_⟩
    have := args_in B sa [.ref 0, .int x1, .int (nI k), .ref 663] 0 i w (pad_nth (n := 5) hw)
    rwa [Nat.zero_add] at this
  have C : Ctx p (headSpec (.codeWith yL_cell cL_cell 5 (some .int) [(0, 10, 13, 13)] :: W0) ({ frames := 1007, cells := 0, slots := 0, locals := 40280 })).room s m (([.ref 0, .int x1, .int (nI k), .ref 663] : List Value).map (rV B sa)).toArray meth c B sa cy dC dI SA 12 0 999 5 RL cL_cell := ⟨B9.exec, B9.bytes, hml, rfl, hown, hts, hI, (fun q => by cases q), Nat.le_refl _, Nat.le_refl _⟩
  refine many_ok (n := 0) (pc := 0) (vs := [some (.ref 0), some (.int x1), some (.int (nI k)), some (.ref 663), none]) (st := []) (M := M) hlib C ck_l 5 (pc' := 5) (vs' := [some (.ref 0), some (.int x1), some (.int (nI k)), some (.ref 663), none]) (st' := [.int (nI k), .int x1, .ref 0, .int 0, .ref 663]) (M' := M) (c0 := 0) (s0 := 0) rfl (Nat.zero_le _) (Nat.zero_le _) ?_ s.heap [] ls hP va_S.rf hsz hL
  clear hP hsz hL hlv ls
  have tail : Wst p l e (headSpec (.codeWith yL_cell cL_cell 5 (some .int) [(0, 10, 13, 13)] :: W0) ({ frames := 1007, cells := 0, slots := 0, locals := 40280 })).room s m (([.ref 0, .int x1, .int (nI k), .ref 663] : List Value).map (rV B sa)).toArray below meth c (MQ below (Qcw B sa cy dC dI (some (.int 0)) (gPut M 663 (.inl (2, .inr (.inl (gPut lo 0 v.toInt64)))))) (([.ref 0, .int x1, .int (nI k), .ref 663] : List Value).map (rV B sa)).toArray s 0 0 (fun q => B ≤ q)) B sa cy dC dI 5 0 0 8 [some (.ref 0), some (.int x1), some (.int (nI k)), some (.ref 663), none] [.int v, .int 0, .ref 663] M := by
    refine many_ok (n := 0) hlib C ck_l 1 (pc' := 9) (vs' := [some (.ref 0), some (.int x1), some (.int (nI k)), some (.ref 663), none]) (st' := [.long v.toInt64, .int 0, .ref 663]) (M' := M) (c0 := 0) (s0 := 0) rfl (Nat.zero_le _) (Nat.zero_le _) ?_
    refine one_ok (n := 0) hlib C ck_l (one_g rfl (Or.inr rfl) (ls_c ho ho1)) (Nat.zero_le _) (Nat.zero_le _) ?_
    exact many_ok (n := 0) hlib C ck_l 2 (pc' := 18) (vs' := [some (.ref 0), some (.int x1), some (.int (nI k)), some (.ref 663), none]) (st' := [.int 0]) (M' := (gPut M 663 (.inl (2, .inr (.inl (gPut lo 0 v.toInt64)))))) (c0 := 0) (s0 := 0) rfl (Nat.zero_le _) (Nat.zero_le _) (ret_W B9.exec B9.bytes B9.returns B9.notSynchronized hI (by decide +kernel))
  intro H locs ls hP hS hsz hL
  refine W.sz (fun hz => ?_)
  have hH := world_size hI hP hS hsz hz
  obtain ⟨-, l9, hl9, -⟩ := id hL
  have hpre : PreV s H RX10 (B + 0) (Pcw B sa cy dC dI SA [.ref 0, .int x1, .int (nI k)] M) ([.int x1, .int (nI k)] : List Value) := pre_v (M := M) (as := [.int x1, .int (nI k)]) (a := 0) (o2 := 10) (C := RX10) hr0.choose_spec (by decide) rfl hI hP hS hH
  exact back_ok (rest := [.int 0, .ref 663]) (va_runV (C := RX10) (b := B + 0) (As := [.int x1, .int (nI k)]) (rest := [.int 0, .ref (B + 663)]) (cc := cL_cell) (nL := 5) ⟨B9.exec, B9.bytes, hml, hown, hts⟩ (met_ans hlib hr0 g1 hk h9 hd9) (cw_cell hts (Nat.le_refl _) (Nat.le_of_ble_eq_true rfl)) hpre rfl rfl hl9.1 rfl (show 0 + (1 + (1 + 0)) ≤ 8 by decide) d_l5 ⟨Nat.le_refl _, Nat.le_refl _⟩) hS (fun H1 locs1 hP1 hS1 => tail H1 locs1 ls hP1 hS1 hsz hL)
end CEM
