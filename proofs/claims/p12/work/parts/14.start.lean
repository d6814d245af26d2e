/-! THE CLAIM OUT OF ONE WALK OF THE LAW'S BODY. Your part is whole_start (and what it stands on); all else here is the same for every law, but numbers. -/
def R_law : String := "GrassParkLaw"
def lw_P (b : Addr) (xs : List Int32) (args : Array Value) (s : State) : Prop := args = #[.ref b] ∧ s.IntsAt b xs ∧ xs.length ≤ 3072 ∧ (Jvm.Cond.and given_1 narrow_1).before args s = true
def lw_Q (_ : Array Value) (s : State) (o : Outcome) (t : State) : Prop := o = .returned (some (.int 1)) ∧ Framed s o t [] 601024 7293034
def lw_Z (below : List Frame) (a : Array Value) (s : State) : State → Prop := fun t => ∃ o, t.status = .running ∧ Ended t below o ∧ lw_Q a s o t
/-- the law's own end, with 1 on the stack, nothing written that was there before, its room as the claim has it -/
theorem lw_ret {p : Program} {l : Launch} {e : Env} {s : State} {m : MethodId} {below : List Frame} {meth : Method} {c : Code} {b : Nat} (hx : p.tables.exec = Jvm.exec) (hb : c.code = code) (hr : meth.sig.returnType = ret) (hlocks : meth.locks = false) {pc : Nat} {H : Heap} {ls : Array Slot} (hdg : decode code pc = .ok (.ireturn, 1)) : W p l e room_1 s m #[Value.ref b] below meth c H [] 601024 7293034 (lw_Z below #[Value.ref b] s) (F0 m pc ls [.int 1]) := by
  intro T hT X
  obtain ⟨fs, hret, hrun, hended, hW, hframe⟩ := X.leave (v := some (.int 1)) (hlocks := hlocks) (fun h => by rw [hr] at h; cases h)
  have hmeth' : T.vm.method? m = some meth := X.method'
  refine ⟨T.setFrames fs, ?_, .returned (some (.int 1)), hrun, hended, rfl, ⟨_, rfl⟩, hW, hframe⟩
  jvm_step X.here [X.here.top, hx, hb, hdg, hmeth', hr, ret, narrow_b1]
  (try refine ⟨rfl, ?_⟩); (try refine ⟨rfl, ?_⟩)
  first | (intro acts; rw [hret _ acts rfl rfl rfl]) | rw [hret _ _ rfl rfl rfl]
  exact Steps.refl _
/-- what holds at the law's entry: the machine, the code, the tables' words (any of lw_tbl by 'hts w (by decide +kernel)'), the script of L ints xs at the cell b, what the Statement gives of the start (any of its parts by flat_of_before) -/
def lw_At (p : Program) (s : State) (m : MethodId) (meth : Method) (c : Code) (b L : Nat) (xs : Nat → Int32) : Prop :=
  p.tables.exec = Jvm.exec ∧ c.code = code ∧ meth.sig.returnType = ret ∧ c.maxLocals = 7 ∧ s.vm.findClass R_law = some m.cls ∧ (∀ w ∈ lw_tbl, w.before #[Value.ref b] s = true) ∧ va_X b L xs s s.heap ∧ b < s.heap.size ∧ meth.locks = false ∧ (Jvm.Cond.and given_1 narrow_1).before #[Value.ref b] s = true
/-! THE START: what the Statement gives of the entry, in the words of the soundness -/
theorem xs_of {args : Array Value} {s : State} {tm : Term} {l : List Int32} (hN : l.length < 2 ^ 31) (harr : (Cond.arrayOf tm .int).before args s = true) (hlen : (Cond.eq (.length tm) (.int (Int32.ofNat l.length))).before args s = true) (hel : ∀ j : Nat, j < l.length → (Cond.eq (.elem tm (.int (Int32.ofNat j))) (.int ((gNth l j).getD 0))).before args s = true) : ∃ t : Nat, tm.eval args s none [] s = some (.ref t) ∧ va_X t l.length (fun i => (gNth l i).getD 0) s s.heap ∧ t < s.heap.size := by
  have hlen2 := va_eqt hlen
  obtain ⟨t, ht, cell, h1, h2, h3, h4, h5, h6, -⟩ := va_Tof (A := fun _ => False) (f := fun j => .int ((gNth l j).getD 0)) hN harr hlen2 (fun j hj => va_eqt (hel j hj)) (fun _ _ h => h)
  have hsz : cell.slots.size < 2 ^ 31 := by
    obtain ⟨t2, cell2, ht2, hat, -⟩ := Term.length_spec hlen2
    obtain ⟨hc2, -⟩ := State.arrayAt?_spec hat
    cases ht.symm.trans ht2
    cases h1.symm.trans hc2
    have hv := hlen2
    simp only [Term.eval, ht2, hat, Option.bind_eq_bind, Option.bind_some] at hv
    by_cases hlt : cell.slots.size < 2147483648
    · exact hlt
    · simp [hlt] at hv
  have he : cell.slots.size = l.length := by
    have h7 : nI cell.slots.size = nI l.length := h5
    exact (nI_eq hsz hN).mp h7
  exact ⟨t, ht, ⟨cell, h1, h2, h3, he, h6⟩, (Array.getElem?_eq_some_iff.mp h1).1⟩
set_option maxRecDepth 100000 in
theorem st_1 {args : Array Value} {s : State} (hgv : (Jvm.Cond.and given_1 narrow_1).before args s = true) : ∃ t : Nat, (Term.static "GrassPark" "ACROSS" "[I").eval args s none [] s = some (.ref t) ∧ ∀ (l : List Int32), gSx none 1 = some l → va_X t l.length (fun i => (gNth l i).getD 0) s s.heap ∧ t < s.heap.size := by
  have hs := flat_of_before _ hgv
  obtain ⟨t, h1, h2, h3⟩ := xs_of (args := args) (s := s) (tm := .static "GrassPark" "ACROSS" "[I") (l := (gSx none 1).getD []) (by decide +kernel) (hs _ (by decide +kernel)) (hs _ (by decide +kernel)) (fun j hj => hs _ (by
    have hj : j < 8 := hj
    revert j
    decide +kernel))
  exact ⟨t, h1, fun l hl => by cases hl; exact ⟨h2, h3⟩⟩
set_option maxRecDepth 100000 in
theorem st_2 {args : Array Value} {s : State} (hgv : (Jvm.Cond.and given_1 narrow_1).before args s = true) : ∃ t : Nat, (Term.static "GrassPark" "DOWN" "[I").eval args s none [] s = some (.ref t) ∧ ∀ (l : List Int32), gSx none 2 = some l → va_X t l.length (fun i => (gNth l i).getD 0) s s.heap ∧ t < s.heap.size := by
  have hs := flat_of_before _ hgv
  obtain ⟨t, h1, h2, h3⟩ := xs_of (args := args) (s := s) (tm := .static "GrassPark" "DOWN" "[I") (l := (gSx none 2).getD []) (by decide +kernel) (hs _ (by decide +kernel)) (hs _ (by decide +kernel)) (fun j hj => hs _ (by
    have hj : j < 8 := hj
    revert j
    decide +kernel))
  exact ⟨t, h1, fun l hl => by cases hl; exact ⟨h2, h3⟩⟩
set_option maxRecDepth 100000 in
theorem st_3 {args : Array Value} {s : State} (hgv : (Jvm.Cond.and given_1 narrow_1).before args s = true) : ∃ t : Nat, (Term.static "GrassPark$Reader" "ASKS" "[I").eval args s none [] s = some (.ref t) ∧ ∀ (l : List Int32), gSx none 3 = some l → va_X t l.length (fun i => (gNth l i).getD 0) s s.heap ∧ t < s.heap.size := by
  have hs := flat_of_before _ hgv
  obtain ⟨t, h1, h2, h3⟩ := xs_of (args := args) (s := s) (tm := .static "GrassPark$Reader" "ASKS" "[I") (l := (gSx none 3).getD []) (by decide +kernel) (hs _ (by decide +kernel)) (hs _ (by decide +kernel)) (fun j hj => hs _ (by
    have hj : j < 13 := hj
    revert j
    decide +kernel))
  exact ⟨t, h1, fun l hl => by cases hl; exact ⟨h2, h3⟩⟩
set_option maxRecDepth 100000 in
theorem st_4 {args : Array Value} {s : State} (hgv : (Jvm.Cond.and given_1 narrow_1).before args s = true) : ∃ t : Nat, (Term.static "GrassPark$Reader" "YES" "[I").eval args s none [] s = some (.ref t) ∧ ∀ (l : List Int32), gSx none 4 = some l → va_X t l.length (fun i => (gNth l i).getD 0) s s.heap ∧ t < s.heap.size := by
  have hs := flat_of_before _ hgv
  obtain ⟨t, h1, h2, h3⟩ := xs_of (args := args) (s := s) (tm := .static "GrassPark$Reader" "YES" "[I") (l := (gSx none 4).getD []) (by decide +kernel) (hs _ (by decide +kernel)) (hs _ (by decide +kernel)) (fun j hj => hs _ (by
    have hj : j < 13 := hj
    revert j
    decide +kernel))
  exact ⟨t, h1, fun l hl => by cases hl; exact ⟨h2, h3⟩⟩
theorem w0_N : Cond.instantiable "java/util/NoSuchElementException" 6 ∈ W0 := ckW_in (i := 5214) (by decide +kernel)
theorem ls_1 : (.laysStatic "GrassPark" "ACROSS" "[I" : Cond) ∈ lw_tbl := gTb_in _ gTb_4 _ (gNth_mem _ 71 _ rfl)
theorem ls_2 : (.laysStatic "GrassPark" "DOWN" "[I" : Cond) ∈ lw_tbl := gTb_in _ gTb_4 _ (gNth_mem _ 73 _ rfl)
theorem ls_3 : (.laysStatic "GrassPark$Reader" "ASKS" "[I" : Cond) ∈ lw_tbl := gTb_in _ gTb_4 _ (gNth_mem _ 10 _ rfl)
theorem ls_4 : (.laysStatic "GrassPark$Reader" "YES" "[I" : Cond) ∈ lw_tbl := gTb_in _ gTb_4 _ (gNth_mem _ 21 _ rfl)
theorem li_1 : (.initialized "GrassPark" : Cond) ∈ lw_tbl := gTb_in _ gTb_1 _ (gNth_mem _ 1 _ rfl)
theorem li_2 : (.initialized "GrassPark$Reader" : Cond) ∈ lw_tbl := gTb_in _ gTb_1 _ (gNth_mem _ 3 _ rfl)
theorem lo_4 : (.arrayOver (.object "GrassPark$Land") : Cond) ∈ lw_tbl := gTb_in _ gTb_3 _ (gNth_mem _ 31 _ rfl)
theorem lo_5 : (.arrayOver (.object "GrassPark$Text") : Cond) ∈ lw_tbl := gTb_in _ gTb_2 _ (gNth_mem _ 69 _ rfl)
theorem lo_6 : (.arrayOver (.object "GrassPark$Walker") : Cond) ∈ lw_tbl := gTb_in _ gTb_1 _ (gNth_mem _ 112 _ rfl)
theorem lo_7 : (.arrayOver (.object "GrassPark$Wish") : Cond) ∈ lw_tbl := gTb_in _ gTb_1 _ (gNth_mem _ 110 _ rfl)
theorem lo_8 : (.arrayOver (.array .int) : Cond) ∈ lw_tbl := gTb_in _ gTb_2 _ (gNth_mem _ 154 _ rfl)
theorem lst_0 : (.stringRef "GrassPark$Reader" (gTi 0) (gTt 0) : Cond) ∈ lw_tbl := gTb_in _ gTb_3 _ (gNth_mem _ 168 _ rfl)
theorem lst_1 : (.stringRef "GrassPark$Reader" (gTi 1) (gTt 1) : Cond) ∈ lw_tbl := gTb_in _ gTb_3 _ (gNth_mem _ 169 _ rfl)
theorem lst_2 : (.stringRef "GrassPark$Reader" (gTi 2) (gTt 2) : Cond) ∈ lw_tbl := gTb_in _ gTb_3 _ (gNth_mem _ 235 _ rfl)
theorem lst_3 : (.stringRef "GrassPark$Reader" (gTi 3) (gTt 3) : Cond) ∈ lw_tbl := gTb_in _ gTb_3 _ (gNth_mem _ 230 _ rfl)
theorem lst_4 : (.stringRef "GrassPark$Reader" (gTi 4) (gTt 4) : Cond) ∈ lw_tbl := gTb_in _ gTb_4 _ (gNth_mem _ 23 _ rfl)
theorem lst_5 : (.stringRef "GrassPark$Reader" (gTi 5) (gTt 5) : Cond) ∈ lw_tbl := gTb_in _ gTb_4 _ (gNth_mem _ 22 _ rfl)
theorem lst_6 : (.stringRef "GrassPark$Reader" (gTi 6) (gTt 6) : Cond) ∈ lw_tbl := gTb_in _ gTb_4 _ (gNth_mem _ 8 _ rfl)
theorem ls_C : (.laysStatic "java/lang/String" "COMPACT_STRINGS" "Z" : Cond) ∈ lw_tbl := gTb_in _ gTb_3 _ (gNth_mem _ 183 _ rfl)
theorem ls_O : (.laysStatic "jdk/internal/util/Preconditions" "SIOOBE_FORMATTER" "Ljava/util/function/BiFunction;" : Cond) ∈ lw_tbl := gTb_in _ gTb_3 _ (gNth_mem _ 199 _ rfl)
theorem li_C : (.initialized "java/lang/String" : Cond) ∈ lw_tbl := gTb_in _ gTb_1 _ (gNth_mem _ 15 _ rfl)
theorem li_O : (.initialized "jdk/internal/util/Preconditions" : Cond) ∈ lw_tbl := gTb_in _ gTb_1 _ (gNth_mem _ 17 _ rfl)
def tmX (j : Nat) : Term := .string "GrassPark$Reader" (gTi j)
def tsqC (k j : Nat) : Cond := Cond.eq (.elem (.field (tmX k) "java/lang/String" "value" "[B") (.int (Int32.ofNat j))) (.int ((gTxs.getD k []).getD j 0))
theorem tsq_in {L : List Cond} {p n k j : Nat} (h : ((L.drop p).take n) = (List.range n).map (tsqC k)) (hj : j < n) : tsqC k j ∈ L :=
  List.mem_of_mem_drop (List.mem_of_mem_take (h ▸ List.mem_map_of_mem (List.mem_range.mpr hj)))
set_option maxRecDepth 100000 in
theorem tsq_0 : (((flatC (Jvm.Cond.and given_1 narrow_1)).drop ((flatC (Jvm.Cond.and given_1 narrow_1)).findIdx (fun c => decide (c = tsqC 0 0)))).take 22) = (List.range 22).map (tsqC 0) := by decide +kernel
theorem te_0 {args : Array Value} {s : State} (hgv : (Jvm.Cond.and given_1 narrow_1).before args s = true) : ∀ j : Nat, j < gTl.getD 0 0 → (Cond.eq (.elem (.field (tmX 0) "java/lang/String" "value" "[B") (.int (Int32.ofNat j))) (.int ((gTxs.getD 0 []).getD j 0))).before args s = true := fun j hj => flat_of_before _ hgv _ (tsq_in tsq_0 hj)
set_option maxRecDepth 100000 in
theorem tsq_1 : (((flatC (Jvm.Cond.and given_1 narrow_1)).drop ((flatC (Jvm.Cond.and given_1 narrow_1)).findIdx (fun c => decide (c = tsqC 1 0)))).take 17) = (List.range 17).map (tsqC 1) := by decide +kernel
theorem te_1 {args : Array Value} {s : State} (hgv : (Jvm.Cond.and given_1 narrow_1).before args s = true) : ∀ j : Nat, j < gTl.getD 1 0 → (Cond.eq (.elem (.field (tmX 1) "java/lang/String" "value" "[B") (.int (Int32.ofNat j))) (.int ((gTxs.getD 1 []).getD j 0))).before args s = true := fun j hj => flat_of_before _ hgv _ (tsq_in tsq_1 hj)
set_option maxRecDepth 100000 in
theorem tsq_2 : (((flatC (Jvm.Cond.and given_1 narrow_1)).drop ((flatC (Jvm.Cond.and given_1 narrow_1)).findIdx (fun c => decide (c = tsqC 2 0)))).take 2) = (List.range 2).map (tsqC 2) := by decide +kernel
theorem te_2 {args : Array Value} {s : State} (hgv : (Jvm.Cond.and given_1 narrow_1).before args s = true) : ∀ j : Nat, j < gTl.getD 2 0 → (Cond.eq (.elem (.field (tmX 2) "java/lang/String" "value" "[B") (.int (Int32.ofNat j))) (.int ((gTxs.getD 2 []).getD j 0))).before args s = true := fun j hj => flat_of_before _ hgv _ (tsq_in tsq_2 hj)
set_option maxRecDepth 100000 in
theorem tsq_3 : (((flatC (Jvm.Cond.and given_1 narrow_1)).drop ((flatC (Jvm.Cond.and given_1 narrow_1)).findIdx (fun c => decide (c = tsqC 3 0)))).take 36) = (List.range 36).map (tsqC 3) := by decide +kernel
theorem te_3 {args : Array Value} {s : State} (hgv : (Jvm.Cond.and given_1 narrow_1).before args s = true) : ∀ j : Nat, j < gTl.getD 3 0 → (Cond.eq (.elem (.field (tmX 3) "java/lang/String" "value" "[B") (.int (Int32.ofNat j))) (.int ((gTxs.getD 3 []).getD j 0))).before args s = true := fun j hj => flat_of_before _ hgv _ (tsq_in tsq_3 hj)
set_option maxRecDepth 100000 in
theorem tsq_4 : (((flatC (Jvm.Cond.and given_1 narrow_1)).drop ((flatC (Jvm.Cond.and given_1 narrow_1)).findIdx (fun c => decide (c = tsqC 4 0)))).take 2) = (List.range 2).map (tsqC 4) := by decide +kernel
theorem te_4 {args : Array Value} {s : State} (hgv : (Jvm.Cond.and given_1 narrow_1).before args s = true) : ∀ j : Nat, j < gTl.getD 4 0 → (Cond.eq (.elem (.field (tmX 4) "java/lang/String" "value" "[B") (.int (Int32.ofNat j))) (.int ((gTxs.getD 4 []).getD j 0))).before args s = true := fun j hj => flat_of_before _ hgv _ (tsq_in tsq_4 hj)
set_option maxRecDepth 100000 in
theorem tsq_5 : (((flatC (Jvm.Cond.and given_1 narrow_1)).drop ((flatC (Jvm.Cond.and given_1 narrow_1)).findIdx (fun c => decide (c = tsqC 5 0)))).take 3) = (List.range 3).map (tsqC 5) := by decide +kernel
theorem te_5 {args : Array Value} {s : State} (hgv : (Jvm.Cond.and given_1 narrow_1).before args s = true) : ∀ j : Nat, j < gTl.getD 5 0 → (Cond.eq (.elem (.field (tmX 5) "java/lang/String" "value" "[B") (.int (Int32.ofNat j))) (.int ((gTxs.getD 5 []).getD j 0))).before args s = true := fun j hj => flat_of_before _ hgv _ (tsq_in tsq_5 hj)
set_option maxRecDepth 100000 in
theorem tsq_6 : (((flatC (Jvm.Cond.and given_1 narrow_1)).drop ((flatC (Jvm.Cond.and given_1 narrow_1)).findIdx (fun c => decide (c = tsqC 6 0)))).take 69) = (List.range 69).map (tsqC 6) := by decide +kernel
theorem te_6 {args : Array Value} {s : State} (hgv : (Jvm.Cond.and given_1 narrow_1).before args s = true) : ∀ j : Nat, j < gTl.getD 6 0 → (Cond.eq (.elem (.field (tmX 6) "java/lang/String" "value" "[B") (.int (Int32.ofNat j))) (.int ((gTxs.getD 6 []).getD j 0))).before args s = true := fun j hj => flat_of_before _ hgv _ (tsq_in tsq_6 hj)
set_option maxRecDepth 100000 in
theorem tx_start {s : State} {args : Array Value} (hgv : (Jvm.Cond.and given_1 narrow_1).before args s = true) (hts : ∀ w ∈ lw_tbl, w.before args s = true) : ∃ adK adV : Nat → Nat, vk_S 7 gTl gTxs adK adV (fun a => s.heap.size ≤ a) s s.heap ∧ ∀ k : Nat, k < 7 → vk_R "GrassPark$Reader" (gTi k) (gTt k) (adK k) s := by
  have hs := flat_of_before _ hgv
  have hA : ∀ a : Nat, a < s.heap.size → ¬ s.heap.size ≤ a := fun a h => Nat.not_le.mpr h
  obtain ⟨adK, adV, h1, h2⟩ := vk_Sof (args := args) (s := s) (N := 7) (tm := tmX) (len := gTl) (byt := gTxs) (A := fun a => s.heap.size ≤ a) (by decide +kernel) (fun i hi => hs _ (by revert i; decide +kernel)) (fun i hi => hs _ (by revert i; decide +kernel)) (fun i hi => hs _ (by revert i; decide +kernel)) (fun i hi => hs _ (by revert i; decide +kernel))
    (fun i hi => by
      match i, hi with
      | 0, _ => exact te_0 hgv
      | 1, _ => exact te_1 hgv
      | 2, _ => exact te_2 hgv
      | 3, _ => exact te_3 hgv
      | 4, _ => exact te_4 hgv
      | 5, _ => exact te_5 hgv
      | 6, _ => exact te_6 hgv
      | n + 7, h => omega)
    (fun i j hi hj hij => by
      have h9 : ∀ i : Nat, i < 7 → ∀ j : Nat, j < 7 → i < j → (Cond.not (Cond.eq (tmX i) (tmX j))) ∈ flatC (Jvm.Cond.and given_1 narrow_1) ∨ (Cond.not (Cond.eq (tmX j) (tmX i))) ∈ flatC (Jvm.Cond.and given_1 narrow_1) := by decide +kernel
      rcases Nat.lt_or_gt_of_ne hij with q | q
      · rcases h9 i hi j hj q with h9 | h9
        · exact Or.inl (hs _ h9)
        · exact Or.inr (hs _ h9)
      · rcases h9 j hj i hi q with h9 | h9
        · exact Or.inr (hs _ h9)
        · exact Or.inl (hs _ h9)) hA
  refine ⟨adK, adV, h1, fun k hk => ?_⟩
  match k, hk with
  | 0, hk => exact vk_R.of (hts _ lst_0) (h2 0 hk)
  | 1, hk => exact vk_R.of (hts _ lst_1) (h2 1 hk)
  | 2, hk => exact vk_R.of (hts _ lst_2) (h2 2 hk)
  | 3, hk => exact vk_R.of (hts _ lst_3) (h2 3 hk)
  | 4, hk => exact vk_R.of (hts _ lst_4) (h2 4 hk)
  | 5, hk => exact vk_R.of (hts _ lst_5) (h2 5 hk)
  | 6, hk => exact vk_R.of (hts _ lst_6) (h2 6 hk)
  | n + 7, h => omega
def saF (b t1 t2 t3 t4 : Nat) (ad av : Nat → Nat) (j : Nat) : Nat := cond (Nat.blt j 10) (match j with | 0 => b | 1 => t1 | 2 => t2 | 3 => t3 | _ => t4) (cond (Nat.blt j 20) (ad (j - 10)) (av (j - 20)))
theorem blt_f {a b : Nat} (h : b ≤ a) : Nat.blt a b = false := by
  cases h9 : Nat.blt a b with
  | false => rfl
  | true =>
    have : a < b := Nat.le_of_ble_eq_true h9
    omega
theorem blt_t {a b : Nat} (h : a < b) : Nat.blt a b = true := Nat.ble_eq_true_of_le h
theorem saF_k (b t1 t2 t3 t4 : Nat) (ad av : Nat → Nat) {k : Nat} (h : k < 7) : saF b t1 t2 t3 t4 ad av (10 + k) = ad k := by
  unfold saF
  rw [blt_f (by omega), blt_t (by omega), Nat.add_sub_cancel_left]
  rfl
theorem saF_v (b t1 t2 t3 t4 : Nat) (ad av : Nat → Nat) (k : Nat) : saF b t1 t2 t3 t4 ad av (20 + k) = av k := by
  unfold saF
  rw [blt_f (by omega), blt_f (by omega), Nat.add_sub_cancel_left]
  rfl
theorem vkS_cong {N : Nat} {len : List Nat} {byt : List (List Int32)} {aK aV bK bV : Nat → Nat} {A : Nat → Prop} {U : State} {H : Heap} (hK : ∀ k, k < N → bK k = aK k) (hV : ∀ k, k < N → bV k = aV k) (h : vk_S N len byt aK aV A U H) : vk_S N len byt bK bV A U H := by
  refine ⟨fun i hi => ?_, fun i j hi hj e => h.2 i j hi hj (by rw [← hK i hi, ← hK j hj]; exact e)⟩
  rw [hK i hi, hV i hi]
  exact h.1 i hi
theorem wn_in : ∀ w ∈ WN, w ∈ lw_tbl := by
  intro w hw
  obtain ⟨i, -, hi⟩ := List.mem_filterMap.mp hw
  split at hi
  · rename_i l9 hl
    exact gTb_in _ (gNth_mem _ _ _ hl) _ (gNth_mem _ _ _ hi)
  · cases hi
theorem w0_lw : ∀ w ∈ W0, w ∈ lw_tbl := fun w hw => (List.mem_filter.mp hw).1
set_option maxHeartbeats 4000000 in
theorem inv_start {p : Program} {s : State} {m : MethodId} {meth : Method} {c : Code} {b L : Nat} {xs : Nat → Int32} (C0 : lw_At p s m meth c b L xs) {sc : List Int32} (hsL : sc.length = L) (hsx : ∀ j, j < L → xs j = (gNth sc j).getD 0) : ∃ (sa : Nat → Nat) (cy : Nat → ClassId) (dC : Nat → ClassId) (dI : Nat → Nat → Nat), sa 0 = b ∧ Inv s.heap.size sa cy dC dI (some sc) s := by
  obtain ⟨hx, hb, hr, hml, hown, hts, hX, hbl, hlocks, hgv⟩ := C0
  have htw : ∀ w ∈ W0, w.before #[Value.ref b] s = true := fun w hw => hts w (w0_lw w hw)
  have hcls : ∀ k : Nat, ∃ x : ClassId × (Nat → Nat), ∀ q : vw_C, gCL[k]? = some q → u_Kn s q.1 q.2.1 q.2.2 x.1 x.2 := by
    intro k
    by_cases hk : k < 12
    · have hty : ∃ (q : vw_C) (ty : Nat → FieldType), gNth gCL k = some q ∧ gNth gTys k = some ty := by
        match k, hk with
        | 0, _ => exact ⟨_, _, rfl, rfl⟩
        | 1, _ => exact ⟨_, _, rfl, rfl⟩
        | 2, _ => exact ⟨_, _, rfl, rfl⟩
        | 3, _ => exact ⟨_, _, rfl, rfl⟩
        | 4, _ => exact ⟨_, _, rfl, rfl⟩
        | 5, _ => exact ⟨_, _, rfl, rfl⟩
        | 6, _ => exact ⟨_, _, rfl, rfl⟩
        | 7, _ => exact ⟨_, _, rfl, rfl⟩
        | 8, _ => exact ⟨_, _, rfl, rfl⟩
        | 9, _ => exact ⟨_, _, rfl, rfl⟩
        | 10, _ => exact ⟨_, _, rfl, rfl⟩
        | 11, _ => exact ⟨_, _, rfl, rfl⟩
        | n + 12, hk => omega
      obtain ⟨q, ty, e1, e2⟩ := hty
      obtain ⟨i1, -, -⟩ := i2_ok e1 e2 hk
      obtain ⟨cC, iS, h⟩ := u_known htw (u_in e1 hk) (htw _ i1)
      refine ⟨(cC, iS), fun q' hq' => ?_⟩
      rw [← nth_eq, e1] at hq'
      cases hq'
      exact h
    · by_cases hk2 : k = 12
      · subst hk2
        obtain ⟨cC, iS, h⟩ := u_known (C := "java/util/NoSuchElementException") (T := fun _ => ("", "", "", false)) (N := 0) htw (fun w hw => by cases hw) (htw _ w0_N)
        exact ⟨(cC, iS), fun q' hq' => by cases hq'; exact h⟩
      · exact ⟨(0, fun _ => 0), fun q' hq' => by
          have h9 : k < 13 := (List.getElem?_eq_some_iff.mp hq').1
          omega⟩
  have harr : ∀ t : Nat, ∃ cA : ClassId, t ≤ 8 → ArrOfT s cA (gTyL t) ∧ va_RA s cA (gTyL t) := by
    intro t
    have hp : ∀ ty : FieldType, (Cond.arrayClass ty).before #[Value.ref b] s = true → ∃ cA : ClassId, ArrOfT s cA ty ∧ s.vm.findClass ("[" ++ ty.toString) = some cA := by
      intro ty h
      obtain ⟨cA, kA, comp, h1, h2, h3⟩ := Cond.arrayClass_spec h
      exact ⟨cA, fun n z => ⟨fun k h => (by cases h), kA, h2, comp, h3⟩, h1⟩
    have ho : ∀ C : String, (Cond.arrayOver (.object C)).before #[Value.ref b] s = true → ∃ cA : ClassId, ArrOfT s cA (.object C) ∧ va_RA s cA (.object C) := by
      intro C h
      obtain ⟨comp, cA, kA, h1, h2, h3, h4, h5⟩ := Cond.arrayOver_spec h
      exact ⟨cA, fun n z => ⟨fun k h => (by cases h), kA, h3, comp, h4⟩, kA, comp, h3, h4, h1, h5⟩
    by_cases ht : t ≤ 8
    · rcases (show t = 0 ∨ t = 1 ∨ t = 2 ∨ t = 3 ∨ t = 4 ∨ t = 5 ∨ t = 6 ∨ t = 7 ∨ t = 8 by omega) with rfl | rfl | rfl | rfl | rfl | rfl | rfl | rfl | rfl
      · obtain ⟨cA, h1, h2⟩ := hp .byte (htw _ w0_aB); exact ⟨cA, fun _ => ⟨h1, h2⟩⟩
      · obtain ⟨cA, h1, h2⟩ := hp .int (htw _ w0_aI); exact ⟨cA, fun _ => ⟨h1, h2⟩⟩
      · obtain ⟨cA, h1, h2⟩ := hp .long (htw _ w0_aJ); exact ⟨cA, fun _ => ⟨h1, h2⟩⟩
      · obtain ⟨cA, h1, h2⟩ := hp .boolean (htw _ w0_aZ); exact ⟨cA, fun _ => ⟨h1, h2⟩⟩
      · obtain ⟨cA, h⟩ := ho _ (hts _ lo_4); exact ⟨cA, fun _ => h⟩
      · obtain ⟨cA, h⟩ := ho _ (hts _ lo_5); exact ⟨cA, fun _ => h⟩
      · obtain ⟨cA, h⟩ := ho _ (hts _ lo_6); exact ⟨cA, fun _ => h⟩
      · obtain ⟨cA, h⟩ := ho _ (hts _ lo_7); exact ⟨cA, fun _ => h⟩
      · obtain ⟨comp, cA, kA, h1, h2, h3, h4, h5⟩ := arrayOverA_spec (hts _ lo_8)
        exact ⟨cA, fun _ => ⟨fun n z => ⟨fun k h => (by cases h), kA, h3, comp, h4⟩, h5⟩⟩
    · exact ⟨0, fun h => absurd h ht⟩
  obtain ⟨t1, e1, f1⟩ := st_1 hgv
  obtain ⟨t2, e2, f2⟩ := st_2 hgv
  obtain ⟨t3, e3, f3⟩ := st_3 hgv
  obtain ⟨t4, e4, f4⟩ := st_4 hgv
  obtain ⟨adK, adV, hvS, hvR⟩ := tx_start hgv hts
  refine ⟨saF b t1 t2 t3 t4 adK adV, fun t => (harr t).choose, fun k => (hcls k).choose.1, fun k => (hcls k).choose.2, rfl, ⟨fun k q hq => (hcls k).choose_spec q hq, fun k q hk => ?_⟩, fun w hw => ?_, fun j l9 hj => ?_, fun j h0 h5 => ?_, Nat.le_refl _, fun t h4 h7 => ?_, ?_, vkS_cong (fun k hk => saF_k _ _ _ _ _ _ _ hk) (fun k _ => saF_v _ _ _ _ _ _ _ k) hvS, fun k hk => ?_, ?_, ?_⟩
  · have h9 : k ≤ 8 := by
      have h8 : k < 9 := (List.getElem?_eq_some_iff.mp hk).1
      omega
    rw [gTy2_at _ h9] at hk
    cases hk
    exact (harr k).choose_spec h9
  · have hs := List.all_eq_true.mp wn_shape w hw
    have hn := hts w (wn_in w hw)
    cases w <;> first | exact va_Nw.of rfl hn | cases hs
  · match j, hj with
    | 0, hj =>
      cases hj
      obtain ⟨scr, g1, g2, g3, g4, g5⟩ := hX
      exact ⟨⟨scr, g1, g2, g3, by rw [hsL]; exact g4, fun j hj => by rw [g5 j (by rw [← hsL]; exact hj), hsx j (by rw [← hsL]; exact hj)]⟩, hbl⟩
    | 1, hj => exact f1 l9 hj
    | 2, hj => exact f2 l9 hj
    | 3, hj => exact f3 l9 hj
    | 4, hj => exact f4 l9 hj
    | n + 5, hj => cases hj
  · have hA : ∀ a : Nat, a < s.heap.size → ¬ s.heap.size ≤ a := fun a h => Nat.not_le.mpr h
    match j, h0, h5 with
    | 1, _, _ => exact va_Zof (hts _ ls_1) (hts _ li_1) e1 hA
    | 2, _, _ => exact va_Zof (hts _ ls_2) (hts _ li_1) e2 hA
    | 3, _, _ => exact va_Zof (hts _ ls_3) (hts _ li_2) e3 hA
    | 4, _, _ => exact va_Zof (hts _ ls_4) (hts _ li_2) e4 hA
    | n + 5, _, h5 => omega
  · rcases (show t = 4 ∨ t = 5 ∨ t = 6 ∨ t = 7 by omega) with rfl | rfl | rfl | rfl
    · exact va_AO.of (hts _ lo_4)
    · exact va_AO.of (hts _ lo_5)
    · exact va_AO.of (hts _ lo_6)
    · exact va_AO.of (hts _ lo_7)
  · exact hts _ lo_8
  · rw [saF_k _ _ _ _ _ _ _ hk]
    exact hvR k hk
  · exact va_Zof (hts _ ls_C) (hts _ li_C) (va_eqt (flat_of_before _ hgv _ (by decide +kernel))) (fun a h => Nat.not_le.mpr h)
  · exact va_Zqof (hts _ ls_O) (hts _ li_O) (flat_of_before _ hgv _ (by decide +kernel)) (fun a h => Nat.not_le.mpr h)
/-- the whole, out of a run of `go` -/
theorem start_ok {p : Program} {e : Env} {s : State} {m : MethodId} {below : List Frame} {meth : Method} {c : Code} (l : Launch) {b L : Nat} {xs : Nat → Int32} (C0 : lw_At p s m meth c b L xs) {sc : List Int32} (hsL : sc.length = L) (hsx : ∀ j, j < L → xs j = (gNth sc j).getD 0) {n : Nat} {M' : Mem} {c0 s0 : Nat} (h : go (some sc) n 1000 idLaw 0 [some (.retAddr 0), none, none, none, none, none, none] [] [] = some (some (.int 1), M', c0, s0)) (hc0 : c0 ≤ 601024) (hs0 : s0 ≤ 7293034) : W p l e room_1 s m #[Value.ref b] below meth c s.heap [] 0 0 (lw_Z below #[Value.ref b] s) (entryFrame m ([Value.ref b] : List Value).toArray 7) := by
  obtain ⟨sa, cy, dC, dI, hsa, hI⟩ := inv_start C0 hsL hsx
  obtain ⟨hx, hb, hr, hml, hown, hts, hX, hbl, hlocks, hgv⟩ := C0
  have hl := lv_entry ([.ref b]) (n := 7) (Nat.le_of_ble_eq_true rfl)
  rw [lg_entry_eq]
  generalize (lg_sl ([.ref b]) ++ List.replicate (7 - (lg_sl ([.ref b])).length) Slot.unset).toArray = ls at hl ⊢
  have hl : lv_has ls 7 [(0, .ref b)] := hl
  have hL : LV s.heap.size sa 7 [some (.retAddr 0), none, none, none, none, none, none] ls := by
    refine ⟨rfl, _, hl, fun i w hw => ?_⟩
    match i, hw with
    | 0, hw =>
      cases hw
      show (0, Value.ref (sa 0)) ∈ _
      rw [hsa]
      exact List.mem_cons_self
    | 1, hw => cases hw
    | 2, hw => cases hw
    | 3, hw => cases hw
    | 4, hw => cases hw
    | 5, hw => cases hw
    | 6, hw => cases hw
    | n + 7, hw => cases hw
  refine go_snd (lib_ok l s.heap.size sa cy dC dI (some sc)) n 1000 idLaw 0 _ [] [] _ M' c0 s0 h 12 yL_law code 7 (some .boolean) 1 0 _ rfl "GrassParkLaw" rfl p e room_1 s m #[Value.ref b] below meth c hx hb hml hown (fun w hw => hts w (w0_lw w hw)) hI (fun q => by cases q) (by decide +kernel) (by decide +kernel) s.heap [] 0 0 ls _ (fun k q h => by cases h) va_S.rf rfl hL (by rw [Nat.zero_add]; exact hc0) (by rw [Nat.zero_add]; exact hs0) ?_
  intro H1 locs1 ls1 pc1 st1 hP1 hS1 hsz1 hcase
  rw [Nat.zero_add, Nat.zero_add]
  rcases hcase with ⟨h1, -⟩ | ⟨x, h1, h2, hd, -⟩
  · cases h1
  · cases h1
    subst h2
    refine va_forget (fun q hq => hS1.2.2 q hq) ?_
    refine W.widen hc0 hs0 ?_
    exact lw_ret hx hb hr hlocks hd
