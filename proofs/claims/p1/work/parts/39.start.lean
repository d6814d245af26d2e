/-! The law from its entry, for every script -/
theorem xtr_of {args : Array Value} {s : State} (hts : ∀ w ∈ lw_tbl, w.before args s = true) (hgv : (Jvm.Cond.and given_1 narrow_1).before args s = true) : Xtr s.heap.size s := by
  have hs := flat_of_before _ hgv
  have hA : ∀ a : Nat, a < s.heap.size → ¬ s.heap.size ≤ a := fun a h => Nat.not_le.mpr h
  have h1 : (Cond.isRef (.static Bundle.tN "UNASSIGNED_STACK" Bundle.steD)).before args s = true := hs _ (by decide +kernel)
  have h2 : (Cond.isRef (.static Bundle.tN "SUPPRESSED_SENTINEL" Bundle.listD)).before args s = true := hs _ (by decide +kernel)
  have h3 : (Cond.exactly (.string RX10 244) "java/lang/String").before args s = true := hs _ (by decide +kernel)
  have h4 : (Cond.stringRef RX10 244 exTx).before args s = true := hts _ (by decide +kernel)
  have l1 : (Cond.laysStatic Bundle.tN "UNASSIGNED_STACK" Bundle.steD).before args s = true := hts _ (by decide +kernel)
  have l2 : (Cond.laysStatic Bundle.tN "SUPPRESSED_SENTINEL" Bundle.listD).before args s = true := hts _ (by decide +kernel)
  have i1 : (Cond.initialized Bundle.tN).before args s = true := hts _ (by decide +kernel)
  obtain ⟨q, hq⟩ : ∃ q : Nat, (Term.string RX10 244).eval args s none [] s = some (.ref q) := by
    obtain ⟨q, -, -, -, h, -⟩ := Cond.exactly_spec (show (Cond.exactly (.string RX10 244) "java/lang/String").holds args s none s [] = true from h3)
    exact ⟨q, h⟩
  exact ⟨vx_Zqof l1 i1 h1 hA, vx_Zqof l2 i1 h2 hA, ⟨q, vk_R.of h4 hq⟩, fun w hw => va_Nw.of (bx_ot w hw) (hts w (ew_b w hw))⟩
theorem d_law630 : decode code 630 = .ok (.invokestatic 80, 3) := by decide +kernel
section LAX
variable {p : Program} {l : Launch} {e : Env} {s : State} {m : MethodId} {below : List Frame} {meth : Method} {c : Code} {b L : Nat} {xs : Nat → Int32} {sa : Nat → Nat} {cy : Nat → ClassId} {dC : Nat → ClassId} {dI : Nat → Nat → Nat}
set_option maxHeartbeats 8000000 in
set_option maxRecDepth 200000 in
/-- the call of the law's cell -/
theorem cell_call {sc : List Int32} {x1 x2 : Int32} (C0 : lw_At p s m meth c b L xs) (hI : Inv s.heap.size sa cy dC dI (some sc) s) {M1 : Mem} {k : Int32} {mc ms cells slots : Nat} (hM : Met l yL_cell (.codeWith yL_cell cL_cell 5 (some .int) [(0, 10, 13, 13)] :: W0) ({ frames := 999, cells := mc, slots := ms, locals := 39960 }) (PcX s.heap.size sa cy dC dI (some sc) [.ref 0, .int x1, .int x2, .ref 663] mem0) (Qcw s.heap.size sa cy dC dI (some (.int k)) M1) mc ms (fun q => s.heap.size ≤ q)) (hl1 : M1.length = mem0.length + mc) (hc : cells + mc ≤ 600002) (hs : slots + ms ≤ 7302231)
    (kk : Wst p l e room_1 s m #[Value.ref b] below meth c (lw_Z below #[Value.ref b] s) s.heap.size sa cy dC dI 7 (cells + mc) (slots + ms) 633 [some (.retAddr 0), some (.ref 0), some (.ref 633), some (.ref 663), some (.int 0), none, none] [.int k] M1) : Wst p l e room_1 s m #[Value.ref b] below meth c (lw_Z below #[Value.ref b] s) s.heap.size sa cy dC dI 7 cells slots 630 [some (.retAddr 0), some (.ref 0), some (.ref 633), some (.ref 663), some (.int 0), none, none] [.ref 663, .int x2, .int x1, .ref 0] mem0 := by
  obtain ⟨hx, hb, hr, hml, hown, hts, hX, hbl, hlocks, hgv⟩ := C0
  have htw : ∀ w ∈ W0, w.before #[Value.ref b] s = true := fun w hw => hts w (w0_lw w hw)
  have hXt := xtr_of hts hgv
  intro H locs ls hP hS hsz hL
  refine W.sz (fun hz => ?_)
  have hH := world_size hI hP hS hsz hz
  obtain ⟨-, l9, h9, -⟩ := id hL
  have hpre : PreS s H (PcX s.heap.size sa cy dC dI (some sc) [.ref 0, .int x1, .int x2, .ref 663] mem0) ([.ref (s.heap.size + 0), .int x1, .int x2, .ref (s.heap.size + 663)] : List Value) := by
    obtain ⟨-, p3⟩ := pre_s (M := mem0) (as := [.ref 0, .int x1, .int x2, .ref 663]) hI hP hS hH
    refine ⟨pcx_blind, fun U hU hW => ⟨p3 U hU hW, hXt.next hW (fun a ha => ?_)⟩⟩
    rw [hU]
    exact hS.2.1 a ha (Nat.not_le.mpr ha)
  have hd : (parseMethodDescriptor yL_cell.desc).map (fun d => d.parameters.length) = some 4 := by decide +kernel
  have cw : vx_CSW room_1 s #[Value.ref b] RL 80 yL_cell cL_cell 5 (some .int) [(0, 10, 13, 13)] (.codeWith yL_cell cL_cell 5 (some .int) [(0, 10, 13, 13)] :: W0) ({ frames := 999, cells := mc, slots := ms, locals := 39960 }) mc ms 4 :=
    ⟨⟨rfl, rfl, Nat.le_of_ble_eq_true rfl, Nat.le_of_ble_eq_true rfl, pay_in htw (goodW0 ew_1), List.mem_cons_self⟩, htw _ ew_1, htw _ ew_4, ⟨by decide +kernel, by decide +kernel⟩, fun sig h => by
      have h2 := hd
      rw [h] at h2
      exact (Option.some.inj h2).symm, htw _ ew_2, htw _ ew_3⟩
  exact back_ok (rest := []) (vx_runSW (As := [.ref (s.heap.size + 0), .int x1, .int x2, .ref (s.heap.size + 663)]) (rest := []) (cc := code) (nL := 7) ⟨hx, hb, hml, hown, htw⟩ hM cw hpre rfl rfl h9.1 rfl (show 0 + 0 ≤ 8 by decide) d_law630 ⟨hc, hs⟩) hS (fun H1 locs1 hP1 hS1 => kk H1 locs1 ls hP1 hS1 (by rw [hl1]; omega) hL)
set_option maxHeartbeats 8000000 in
set_option maxRecDepth 200000 in
/-- from the entry to the call of the law's cell -/
theorem law_to14 {x0 x1 x2 x3 x4 x5 : Int32} (hj : x0 &&& 63 = nI 14) (C0 : lw_At p s m meth c b L xs) (hI : Inv s.heap.size sa cy dC dI (some [x0, x1, x2, x3, x4, x5]) s)
    (kk : Wst p l e room_1 s m #[Value.ref b] below meth c (lw_Z below #[Value.ref b] s) s.heap.size sa cy dC dI 7 664 80631 630 [some (.retAddr 0), some (.ref 0), some (.ref 633), some (.ref 663), some (.int 0), none, none] [.ref 663, .int x2, .int x1, .ref 0] mem0) : Wst p l e room_1 s m #[Value.ref b] below meth c (lw_Z below #[Value.ref b] s) s.heap.size sa cy dC dI 7 0 0 0 [some (.retAddr 0), none, none, none, none, none, none] [] [] := by
  have C := law_ctx C0 hI
  have hf := fill_ok l s.heap.size sa cy dC dI (some [x0, x1, x2, x3, x4, x5])
  refine many_ok (n := 0) hf C law_tab 2 (pc' := 4) (vs' := [some (.retAddr 0), none, none, none, none, none, none]) (st' := [.ref 0, .ref 0]) (M' := [.inr (10, gDef 10)]) (c0 := 1) (s0 := 16) rfl (Nat.le_of_ble_eq_true rfl) (Nat.le_of_ble_eq_true rfl) ?_
  obtain ⟨n1, h1⟩ := ev_P1.any (some [x0, x1, x2, x3, x4, x5])
  refine one_ok hf C law_tab (one_call (i := .invokespecial 15) (id := 79) (ls0 := [some (.ref 0), none]) (rest := [.ref 0]) rfl rfl h1) (Nat.le_of_ble_eq_true rfl) (Nat.le_of_ble_eq_true rfl) ?_
  refine many_ok (n := 0) hf C law_tab 3 (pc' := 12) (vs' := [some (.retAddr 0), some (.ref 0), none, none, none, none, none]) (st' := [.ref 633, .ref 633]) (M' := memP ++ [.inr (11, gDef 11)]) (c0 := 1) (s0 := 63) rfl (Nat.le_of_ble_eq_true rfl) (Nat.le_of_ble_eq_true rfl) ?_
  obtain ⟨n2, h2⟩ := (Ev.of (eqR_eq ctorM) (some [x0, x1, x2, x3, x4, x5]))
  refine one_ok hf C law_tab (one_call (i := .invokespecial 18) (id := 144) (ls0 := [some (.ref 633)]) (rest := [.ref 633]) rfl rfl h2) (Nat.le_of_ble_eq_true rfl) (Nat.le_of_ble_eq_true rfl) ?_
  refine many_ok (n := 0) hf C law_tab 3 (pc' := 19) (vs' := [some (.retAddr 0), some (.ref 0), some (.ref 633), none, none, none, none]) (st' := [.ref 663]) (M' := (memP ++ memM) ++ [gZero 2 1]) (c0 := 1) (s0 := 1) rfl (Nat.le_of_ble_eq_true rfl) (Nat.le_of_ble_eq_true rfl) ?_
  rw [eqM mem0_k]
  refine many_ok (n := 0) hf C law_tab 3 (pc' := 23) (vs' := [some (.retAddr 0), some (.ref 0), some (.ref 633), some (.ref 663), some (.int 0), none, none]) (st' := []) (M' := mem0) (c0 := 0) (s0 := 0) rfl (Nat.le_of_ble_eq_true rfl) (Nat.le_of_ble_eq_true rfl) ?_
  refine many_ok (n := 0) hf C law_tab 3 (pc' := 27) (vs' := [some (.retAddr 0), some (.ref 0), some (.ref 633), some (.ref 663), some (.int 0), none, none]) (st' := [.int 6, .int 0]) (M' := mem0) (c0 := 0) (s0 := 0) rfl (Nat.le_of_ble_eq_true rfl) (Nat.le_of_ble_eq_true rfl) ?_
  refine many_ok (n := 0) hf C law_tab 8 (pc' := 40) (vs' := [some (.retAddr 0), some (.ref 0), some (.ref 633), some (.ref 663), some (.int 0), none, none]) (st' := [.int (x0 &&& 63)]) (M' := mem0) (c0 := 0) (s0 := 0) rfl (Nat.le_of_ble_eq_true rfl) (Nat.le_of_ble_eq_true rfl) ?_
  rw [hj]
  refine many_ok (n := 0) hf C law_tab 1 (pc' := 616) (vs' := [some (.retAddr 0), some (.ref 0), some (.ref 633), some (.ref 663), some (.int 0), none, none]) (st' := []) (M' := mem0) (c0 := 0) (s0 := 0) rfl (Nat.le_of_ble_eq_true rfl) (Nat.le_of_ble_eq_true rfl) ?_
  refine many_ok (n := 0) hf C law_tab 12 (pc' := 630) (vs' := [some (.retAddr 0), some (.ref 0), some (.ref 633), some (.ref 663), some (.int 0), none, none]) (st' := [.ref 663, .int x2, .int x1, .ref 0]) (M' := mem0) (c0 := 0) (s0 := 0) rfl (Nat.le_of_ble_eq_true rfl) (Nat.le_of_ble_eq_true rfl) ?_
  exact kk
theorem mem0_app (e : AE) : mem0 ++ [e] = memP ++ (memM ++ [memO, e]) := by
  unfold mem0
  rw [List.append_assoc, List.append_assoc]
  rfl
/-- the law's case 14 -/
theorem law_14 {x0 x1 x2 x3 x4 x5 : Int32} (hj : x0 &&& 63 = nI 14) (hl : l.stackTraces = false) (C0 : lw_At p s m meth c b L xs) (hI : Inv s.heap.size sa cy dC dI (some [x0, x1, x2, x3, x4, x5]) s) : Wst p l e room_1 s m #[Value.ref b] below meth c (lw_Z below #[Value.ref b] s) s.heap.size sa cy dC dI 7 0 0 0 [some (.retAddr 0), none, none, none, none, none, none] [] [] := by
  have hf := fill_ok l s.heap.size sa cy dC dI (some [x0, x1, x2, x3, x4, x5])
  refine law_to14 hj C0 hI ?_
  by_cases ho : x1 < 0 ∨ (¬ x1 < 0 ∧ 15 < x1) ∨ ((¬ x1 < 0 ∧ ¬ 15 < x1) ∧ (x2 < 0 ∨ (¬ x2 < 0 ∧ 8 < x2)))
  · refine cell_call C0 hI (met_Lthrow hl hf (out_of ho)) (by simp only [List.length_append, List.length_cons, List.length_nil, Nat.zero_add]) (Nat.le_of_ble_eq_true rfl) (Nat.le_of_ble_eq_true rfl) ?_
    rw [mem0_app]
    obtain ⟨M', hev⟩ := law_tail (x0 := x0) (x3 := x3) (x4 := x4) (x5 := x5) (Y := [memO, .inr (12, [])]) (rcell_out ho) rfl rthrown (Or.inl rfl)
    exact ev_W C0 hI hev (Nat.le_of_ble_eq_true rfl) (Nat.le_of_ble_eq_true rfl)
  · have g0 : ¬ x1 < 0 := fun q => ho (Or.inl q)
    have g1 : ¬ 15 < x1 := fun q => ho (Or.inr (Or.inl ⟨g0, q⟩))
    have g2 : ¬ x2 < 0 := fun q => ho (Or.inr (Or.inr ⟨⟨g0, g1⟩, Or.inl q⟩))
    have g3 : ¬ 8 < x2 := fun q => ho (Or.inr (Or.inr ⟨⟨g0, g1⟩, Or.inr ⟨g2, q⟩⟩))
    obtain ⟨k, b1, b2, b3, rfl⟩ := nat_of g2 g3 (by decide)
    have c2 : (8 : Int32).toInt = 8 := by decide
    have hk : k < 9 := by omega
    refine cell_call C0 hI (met_Lans hf g0 g1 hk) rfl (Nat.le_of_ble_eq_true rfl) (Nat.le_of_ble_eq_true rfl) ?_
    obtain ⟨c, a1, a2, a3, rfl⟩ := nat_of g0 g1 (by decide)
    have c1 : (15 : Int32).toInt = 15 := by decide
    obtain ⟨M1, A, hr, M2, A2⟩ := cell_r (c := c) (k := k) (by omega) hk
    obtain ⟨M', hev⟩ := law_tail (x0 := x0) (x3 := x3) (x4 := x4) (x5 := x5) (Y := [memO]) A hr A2 (Or.inr ⟨rfl, rfl, [], rfl⟩)
    exact ev_W C0 hI hev (Nat.le_of_ble_eq_true rfl) (Nat.le_of_ble_eq_true rfl)
end LAX
set_option maxRecDepth 200000 in
set_option maxHeartbeats 8000000 in
/-- a call number that the law doesn't know -/
theorem ok_none {x0 x1 x2 x3 x4 x5 : Int32} {j : Nat} (hj : x0 &&& 63 = nI j) (h1 : 35 ≤ j) (h2 : j < 64) : Okk x0 x1 x2 x3 x4 x5 := by
  refine ⟨mem0, law_sw hj ?_⟩
  clear hj
  match j, h1, h2 with
  | 35, _, _ => exact Ev.step (pc' := 1352) (ls' := [some (.retAddr 0), some (.ref 0), some (.ref 633), some (.ref 663), some (.int 0), none, none]) (st' := []) (M1 := mem0) 1 (fun n => rfl) (law_end _ _ _ _ _ _ _)
  | 36, _, _ => exact Ev.step (pc' := 1352) (ls' := [some (.retAddr 0), some (.ref 0), some (.ref 633), some (.ref 663), some (.int 0), none, none]) (st' := []) (M1 := mem0) 1 (fun n => rfl) (law_end _ _ _ _ _ _ _)
  | 37, _, _ => exact Ev.step (pc' := 1352) (ls' := [some (.retAddr 0), some (.ref 0), some (.ref 633), some (.ref 663), some (.int 0), none, none]) (st' := []) (M1 := mem0) 1 (fun n => rfl) (law_end _ _ _ _ _ _ _)
  | 38, _, _ => exact Ev.step (pc' := 1352) (ls' := [some (.retAddr 0), some (.ref 0), some (.ref 633), some (.ref 663), some (.int 0), none, none]) (st' := []) (M1 := mem0) 1 (fun n => rfl) (law_end _ _ _ _ _ _ _)
  | 39, _, _ => exact Ev.step (pc' := 1352) (ls' := [some (.retAddr 0), some (.ref 0), some (.ref 633), some (.ref 663), some (.int 0), none, none]) (st' := []) (M1 := mem0) 1 (fun n => rfl) (law_end _ _ _ _ _ _ _)
  | 40, _, _ => exact Ev.step (pc' := 1352) (ls' := [some (.retAddr 0), some (.ref 0), some (.ref 633), some (.ref 663), some (.int 0), none, none]) (st' := []) (M1 := mem0) 1 (fun n => rfl) (law_end _ _ _ _ _ _ _)
  | 41, _, _ => exact Ev.step (pc' := 1352) (ls' := [some (.retAddr 0), some (.ref 0), some (.ref 633), some (.ref 663), some (.int 0), none, none]) (st' := []) (M1 := mem0) 1 (fun n => rfl) (law_end _ _ _ _ _ _ _)
  | 42, _, _ => exact Ev.step (pc' := 1352) (ls' := [some (.retAddr 0), some (.ref 0), some (.ref 633), some (.ref 663), some (.int 0), none, none]) (st' := []) (M1 := mem0) 1 (fun n => rfl) (law_end _ _ _ _ _ _ _)
  | 43, _, _ => exact Ev.step (pc' := 1352) (ls' := [some (.retAddr 0), some (.ref 0), some (.ref 633), some (.ref 663), some (.int 0), none, none]) (st' := []) (M1 := mem0) 1 (fun n => rfl) (law_end _ _ _ _ _ _ _)
  | 44, _, _ => exact Ev.step (pc' := 1352) (ls' := [some (.retAddr 0), some (.ref 0), some (.ref 633), some (.ref 663), some (.int 0), none, none]) (st' := []) (M1 := mem0) 1 (fun n => rfl) (law_end _ _ _ _ _ _ _)
  | 45, _, _ => exact Ev.step (pc' := 1352) (ls' := [some (.retAddr 0), some (.ref 0), some (.ref 633), some (.ref 663), some (.int 0), none, none]) (st' := []) (M1 := mem0) 1 (fun n => rfl) (law_end _ _ _ _ _ _ _)
  | 46, _, _ => exact Ev.step (pc' := 1352) (ls' := [some (.retAddr 0), some (.ref 0), some (.ref 633), some (.ref 663), some (.int 0), none, none]) (st' := []) (M1 := mem0) 1 (fun n => rfl) (law_end _ _ _ _ _ _ _)
  | 47, _, _ => exact Ev.step (pc' := 1352) (ls' := [some (.retAddr 0), some (.ref 0), some (.ref 633), some (.ref 663), some (.int 0), none, none]) (st' := []) (M1 := mem0) 1 (fun n => rfl) (law_end _ _ _ _ _ _ _)
  | 48, _, _ => exact Ev.step (pc' := 1352) (ls' := [some (.retAddr 0), some (.ref 0), some (.ref 633), some (.ref 663), some (.int 0), none, none]) (st' := []) (M1 := mem0) 1 (fun n => rfl) (law_end _ _ _ _ _ _ _)
  | 49, _, _ => exact Ev.step (pc' := 1352) (ls' := [some (.retAddr 0), some (.ref 0), some (.ref 633), some (.ref 663), some (.int 0), none, none]) (st' := []) (M1 := mem0) 1 (fun n => rfl) (law_end _ _ _ _ _ _ _)
  | 50, _, _ => exact Ev.step (pc' := 1352) (ls' := [some (.retAddr 0), some (.ref 0), some (.ref 633), some (.ref 663), some (.int 0), none, none]) (st' := []) (M1 := mem0) 1 (fun n => rfl) (law_end _ _ _ _ _ _ _)
  | 51, _, _ => exact Ev.step (pc' := 1352) (ls' := [some (.retAddr 0), some (.ref 0), some (.ref 633), some (.ref 663), some (.int 0), none, none]) (st' := []) (M1 := mem0) 1 (fun n => rfl) (law_end _ _ _ _ _ _ _)
  | 52, _, _ => exact Ev.step (pc' := 1352) (ls' := [some (.retAddr 0), some (.ref 0), some (.ref 633), some (.ref 663), some (.int 0), none, none]) (st' := []) (M1 := mem0) 1 (fun n => rfl) (law_end _ _ _ _ _ _ _)
  | 53, _, _ => exact Ev.step (pc' := 1352) (ls' := [some (.retAddr 0), some (.ref 0), some (.ref 633), some (.ref 663), some (.int 0), none, none]) (st' := []) (M1 := mem0) 1 (fun n => rfl) (law_end _ _ _ _ _ _ _)
  | 54, _, _ => exact Ev.step (pc' := 1352) (ls' := [some (.retAddr 0), some (.ref 0), some (.ref 633), some (.ref 663), some (.int 0), none, none]) (st' := []) (M1 := mem0) 1 (fun n => rfl) (law_end _ _ _ _ _ _ _)
  | 55, _, _ => exact Ev.step (pc' := 1352) (ls' := [some (.retAddr 0), some (.ref 0), some (.ref 633), some (.ref 663), some (.int 0), none, none]) (st' := []) (M1 := mem0) 1 (fun n => rfl) (law_end _ _ _ _ _ _ _)
  | 56, _, _ => exact Ev.step (pc' := 1352) (ls' := [some (.retAddr 0), some (.ref 0), some (.ref 633), some (.ref 663), some (.int 0), none, none]) (st' := []) (M1 := mem0) 1 (fun n => rfl) (law_end _ _ _ _ _ _ _)
  | 57, _, _ => exact Ev.step (pc' := 1352) (ls' := [some (.retAddr 0), some (.ref 0), some (.ref 633), some (.ref 663), some (.int 0), none, none]) (st' := []) (M1 := mem0) 1 (fun n => rfl) (law_end _ _ _ _ _ _ _)
  | 58, _, _ => exact Ev.step (pc' := 1352) (ls' := [some (.retAddr 0), some (.ref 0), some (.ref 633), some (.ref 663), some (.int 0), none, none]) (st' := []) (M1 := mem0) 1 (fun n => rfl) (law_end _ _ _ _ _ _ _)
  | 59, _, _ => exact Ev.step (pc' := 1352) (ls' := [some (.retAddr 0), some (.ref 0), some (.ref 633), some (.ref 663), some (.int 0), none, none]) (st' := []) (M1 := mem0) 1 (fun n => rfl) (law_end _ _ _ _ _ _ _)
  | 60, _, _ => exact Ev.step (pc' := 1352) (ls' := [some (.retAddr 0), some (.ref 0), some (.ref 633), some (.ref 663), some (.int 0), none, none]) (st' := []) (M1 := mem0) 1 (fun n => rfl) (law_end _ _ _ _ _ _ _)
  | 61, _, _ => exact Ev.step (pc' := 1352) (ls' := [some (.retAddr 0), some (.ref 0), some (.ref 633), some (.ref 663), some (.int 0), none, none]) (st' := []) (M1 := mem0) 1 (fun n => rfl) (law_end _ _ _ _ _ _ _)
  | 62, _, _ => exact Ev.step (pc' := 1352) (ls' := [some (.retAddr 0), some (.ref 0), some (.ref 633), some (.ref 663), some (.int 0), none, none]) (st' := []) (M1 := mem0) 1 (fun n => rfl) (law_end _ _ _ _ _ _ _)
  | 63, _, _ => exact Ev.step (pc' := 1352) (ls' := [some (.retAddr 0), some (.ref 0), some (.ref 633), some (.ref 663), some (.int 0), none, none]) (st' := []) (M1 := mem0) 1 (fun n => rfl) (law_end _ _ _ _ _ _ _)
  | 0, h1, _ => exact absurd h1 (by decide)
  | 1, h1, _ => exact absurd h1 (by decide)
  | 2, h1, _ => exact absurd h1 (by decide)
  | 3, h1, _ => exact absurd h1 (by decide)
  | 4, h1, _ => exact absurd h1 (by decide)
  | 5, h1, _ => exact absurd h1 (by decide)
  | 6, h1, _ => exact absurd h1 (by decide)
  | 7, h1, _ => exact absurd h1 (by decide)
  | 8, h1, _ => exact absurd h1 (by decide)
  | 9, h1, _ => exact absurd h1 (by decide)
  | 10, h1, _ => exact absurd h1 (by decide)
  | 11, h1, _ => exact absurd h1 (by decide)
  | 12, h1, _ => exact absurd h1 (by decide)
  | 13, h1, _ => exact absurd h1 (by decide)
  | 14, h1, _ => exact absurd h1 (by decide)
  | 15, h1, _ => exact absurd h1 (by decide)
  | 16, h1, _ => exact absurd h1 (by decide)
  | 17, h1, _ => exact absurd h1 (by decide)
  | 18, h1, _ => exact absurd h1 (by decide)
  | 19, h1, _ => exact absurd h1 (by decide)
  | 20, h1, _ => exact absurd h1 (by decide)
  | 21, h1, _ => exact absurd h1 (by decide)
  | 22, h1, _ => exact absurd h1 (by decide)
  | 23, h1, _ => exact absurd h1 (by decide)
  | 24, h1, _ => exact absurd h1 (by decide)
  | 25, h1, _ => exact absurd h1 (by decide)
  | 26, h1, _ => exact absurd h1 (by decide)
  | 27, h1, _ => exact absurd h1 (by decide)
  | 28, h1, _ => exact absurd h1 (by decide)
  | 29, h1, _ => exact absurd h1 (by decide)
  | 30, h1, _ => exact absurd h1 (by decide)
  | 31, h1, _ => exact absurd h1 (by decide)
  | 32, h1, _ => exact absurd h1 (by decide)
  | 33, h1, _ => exact absurd h1 (by decide)
  | 34, h1, _ => exact absurd h1 (by decide)
  | n + 64, _, h2 => exact absurd h2 (by omega)
theorem ok_all {x0 x1 x2 x3 x4 x5 : Int32} {j : Nat} (hj : x0 &&& 63 = nI j) (h2 : j < 64) (h14 : j ≠ 14) : Okk x0 x1 x2 x3 x4 x5 := by
  by_cases h1 : 35 ≤ j
  · exact ok_none hj h1 h2
  · match j, hj, h14, h1 with
    | 0, hj, _, _ => exact ok_0 hj
    | 1, hj, _, _ => exact ok_1 hj
    | 2, hj, _, _ => exact ok_2 hj
    | 3, hj, _, _ => exact ok_3 hj
    | 4, hj, _, _ => exact ok_4 hj
    | 5, hj, _, _ => exact ok_5 hj
    | 6, hj, _, _ => exact ok_6 hj
    | 7, hj, _, _ => exact ok_7 hj
    | 8, hj, _, _ => exact ok_8 hj
    | 9, hj, _, _ => exact ok_9 hj
    | 10, hj, _, _ => exact ok_10 hj
    | 11, hj, _, _ => exact ok_11 hj
    | 12, hj, _, _ => exact ok_12 hj
    | 13, hj, _, _ => exact ok_13 hj
    | 14, _, h14, _ => exact absurd rfl h14
    | 15, hj, _, _ => exact ok_15 hj
    | 16, hj, _, _ => exact ok_16 hj
    | 17, hj, _, _ => exact ok_17 hj
    | 18, hj, _, _ => exact ok_18 hj
    | 19, hj, _, _ => exact ok_19 hj
    | 20, hj, _, _ => exact ok_20 hj
    | 21, hj, _, _ => exact ok_21 hj
    | 22, hj, _, _ => exact ok_22 hj
    | 23, hj, _, _ => exact ok_23 hj
    | 24, hj, _, _ => exact ok_24 hj
    | 25, hj, _, _ => exact ok_25 hj
    | 26, hj, _, _ => exact ok_26 hj
    | 27, hj, _, _ => exact ok_27 hj
    | 28, hj, _, _ => exact ok_28 hj
    | 29, hj, _, _ => exact ok_29 hj
    | 30, hj, _, _ => exact ok_30 hj
    | 31, hj, _, _ => exact ok_31 hj
    | 32, hj, _, _ => exact ok_32 hj
    | 33, hj, _, _ => exact ok_33 hj
    | 34, hj, _, _ => exact ok_34 hj
    | n + 35, _, _, h1 => exact absurd (Nat.le_add_left 35 n) h1
set_option maxRecDepth 200000 in
set_option maxHeartbeats 4000000 in
/-- fewer than six numbers: no call -/
theorem short_ok (sc : List Int32) (h : sc.length < 6) : ∃ M' : Mem, Ev (some sc) 1000 251 23 [some (.retAddr 0), some (.ref 0), some (.ref 633), some (.ref 663), some (.int 0), none, none] [] mem0 (some (.int 1)) M' 0 0 := by
  refine ⟨mem0, ?_⟩
  match sc, h with
  | [], _ =>
    refine Ev.step (pc' := 27) (ls' := [some (.retAddr 0), some (.ref 0), some (.ref 633), some (.ref 663), some (.int 0), none, none]) (st' := [.int 0, .int 0]) (M1 := mem0) 3 (fun n => rfl) ?_
    refine Ev.step (pc' := 1359) (ls' := [some (.retAddr 0), some (.ref 0), some (.ref 633), some (.ref 663), some (.int 0), none, none]) (st' := [.int 1]) (M1 := mem0) 4 (fun n => rfl) ?_
    exact Ev.ret (fun n => rfl)
  | [a0], _ =>
    refine Ev.step (pc' := 27) (ls' := [some (.retAddr 0), some (.ref 0), some (.ref 633), some (.ref 663), some (.int 0), none, none]) (st' := [.int 1, .int 0]) (M1 := mem0) 3 (fun n => rfl) ?_
    refine Ev.step (pc' := 1359) (ls' := [some (.retAddr 0), some (.ref 0), some (.ref 633), some (.ref 663), some (.int 0), none, none]) (st' := [.int 1]) (M1 := mem0) 4 (fun n => rfl) ?_
    exact Ev.ret (fun n => rfl)
  | [a0, a1], _ =>
    refine Ev.step (pc' := 27) (ls' := [some (.retAddr 0), some (.ref 0), some (.ref 633), some (.ref 663), some (.int 0), none, none]) (st' := [.int 2, .int 0]) (M1 := mem0) 3 (fun n => rfl) ?_
    refine Ev.step (pc' := 1359) (ls' := [some (.retAddr 0), some (.ref 0), some (.ref 633), some (.ref 663), some (.int 0), none, none]) (st' := [.int 1]) (M1 := mem0) 4 (fun n => rfl) ?_
    exact Ev.ret (fun n => rfl)
  | [a0, a1, a2], _ =>
    refine Ev.step (pc' := 27) (ls' := [some (.retAddr 0), some (.ref 0), some (.ref 633), some (.ref 663), some (.int 0), none, none]) (st' := [.int 3, .int 0]) (M1 := mem0) 3 (fun n => rfl) ?_
    refine Ev.step (pc' := 1359) (ls' := [some (.retAddr 0), some (.ref 0), some (.ref 633), some (.ref 663), some (.int 0), none, none]) (st' := [.int 1]) (M1 := mem0) 4 (fun n => rfl) ?_
    exact Ev.ret (fun n => rfl)
  | [a0, a1, a2, a3], _ =>
    refine Ev.step (pc' := 27) (ls' := [some (.retAddr 0), some (.ref 0), some (.ref 633), some (.ref 663), some (.int 0), none, none]) (st' := [.int 4, .int 0]) (M1 := mem0) 3 (fun n => rfl) ?_
    refine Ev.step (pc' := 1359) (ls' := [some (.retAddr 0), some (.ref 0), some (.ref 633), some (.ref 663), some (.int 0), none, none]) (st' := [.int 1]) (M1 := mem0) 4 (fun n => rfl) ?_
    exact Ev.ret (fun n => rfl)
  | [a0, a1, a2, a3, a4], _ =>
    refine Ev.step (pc' := 27) (ls' := [some (.retAddr 0), some (.ref 0), some (.ref 633), some (.ref 663), some (.int 0), none, none]) (st' := [.int 5, .int 0]) (M1 := mem0) 3 (fun n => rfl) ?_
    refine Ev.step (pc' := 1359) (ls' := [some (.retAddr 0), some (.ref 0), some (.ref 633), some (.ref 663), some (.int 0), none, none]) (st' := [.int 1]) (M1 := mem0) 4 (fun n => rfl) ?_
    exact Ev.ret (fun n => rfl)
  | a :: b :: c :: d :: e :: f :: r, h => exact absurd h (by simp only [List.length_cons]; omega)
/-- YOUR PART: from the entry, for every script of at most 6 ints, the law comes to its end with true -/
theorem whole_start {p : Program} {e : Env} {s : State} {m : MethodId} {below : List Frame} {meth : Method} {c : Code} (l : Launch) (hflags : l.flags = flags0) {b L : Nat} {xs : Nat → Int32} (hL : L ≤ 6) (C0 : lw_At p s m meth c b L xs) : W p l e room_1 s m #[Value.ref b] below meth c s.heap [] 0 0 (lw_Z below #[Value.ref b] s) (entryFrame m ([Value.ref b] : List Value).toArray 7) := by
  have hl : l.stackTraces = false := by unfold Launch.stackTraces; rw [hflags]; decide
  by_cases h6 : L < 6
  · have hsL : ((List.range L).map xs).length = L := by rw [List.length_map, List.length_range]
    have hsx : ∀ j, j < L → xs j = (gNth ((List.range L).map xs) j).getD 0 := by
      intro j hj
      rw [nth_eq, List.getElem?_map, List.getElem?_range hj]
      rfl
    obtain ⟨M', h⟩ := short_ok ((List.range L).map xs) (by rw [hsL]; exact h6)
    obtain ⟨n, h⟩ := law_head _ h
    exact start_ok l C0 hsL hsx h (Nat.le_of_ble_eq_true rfl) (Nat.le_of_ble_eq_true rfl)
  · obtain rfl : L = 6 := by omega
    have hsL : ([xs 0, xs 1, xs 2, xs 3, xs 4, xs 5] : List Int32).length = 6 := rfl
    have hsx : ∀ j, j < 6 → xs j = (gNth [xs 0, xs 1, xs 2, xs 3, xs 4, xs 5] j).getD 0 := by
      intro j hj
      match j, hj with
      | 0, _ => rfl
      | 1, _ => rfl
      | 2, _ => rfl
      | 3, _ => rfl
      | 4, _ => rfl
      | 5, _ => rfl
      | n + 6, hj => exact absurd hj (by omega)
    obtain ⟨j, hj, ej⟩ := pk_andE (xs 0) (m := 63) 6 (by decide)
    by_cases h14 : j = 14
    · subst h14
      obtain ⟨sa, cy, dC, dI, hsa, hI⟩ := inv_start C0 hsL hsx
      exact start_W C0 hsa (law_14 ej hl C0 hI)
    · obtain ⟨M', h⟩ := ok_all (x1 := xs 1) (x2 := xs 2) (x3 := xs 3) (x4 := xs 4) (x5 := xs 5) ej hj h14
      obtain ⟨n, h⟩ := law_head _ h
      exact start_ok l C0 hsL hsx h (Nat.le_of_ble_eq_true rfl) (Nat.le_of_ble_eq_true rfl)
