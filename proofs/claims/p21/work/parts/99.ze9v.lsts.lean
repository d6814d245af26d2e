/-! WHERE LEAST'S ROWS ARE, beside the whole state (made by gpls.py) -/
noncomputable def lp6B (md : Md) : Bool := match gNth sT 196 with
  | some g => !mdIn md (1000 + g) 0
  | none => false
def SVL (M : Mem) : Prop := SVG M ∧ LP6 M
section LPKEEP
variable {x1 x2 x3 x4 x5 k i w : Int32} {e : Nat} {M M1 M2 M' : Mem} {md : Md} {v v1 v2 : Option Value} {T : TS} {P X : PK}
theorem LP6.frm (h : LP6 M) (hS : SH M) (hF : Frm sT md M M') (hB : lp6B md = true) : LP6 M' := fun k hk => by
  have hn : ¬ mW md 196 := by
    unfold lp6B at hB
    rintro (q | ⟨g, q1, q2⟩)
    · rw [q] at hB
      cases hB
    · rw [q1] at hB
      exact md_no hB q2
  exact ((frm_fz hS hF).on hn).trans (h k hk)
theorem LP6.far (h : LP6 M) (hF : FZ fF fW fW M M') : LP6 M' := fun k hk => (hF.on (by unfold fW; omega)).trans (h k hk)
theorem SVL.app (h : SVL M) (e : AE) : SVL (M ++ [e]) := by
  refine ⟨h.1.app e, h.2.far (FZ.eq (fun a ha => ?_) (fun _ _ q => q) (fun _ q => q) (fun _ q => q))⟩
  obtain ⟨g, hg⟩ : ∃ g, gNth sT a = some g := by
    rw [nth_eq]
    exact ⟨_, List.getElem?_eq_getElem (by rw [st_len]; omega)⟩
  have hq := List.all_eq_true.mp st_gr a (List.mem_range.mpr (by omega))
  rw [hg] at hq
  have hq : (gNth sG g).isSome = true := hq
  obtain ⟨ct, hct⟩ := Option.isSome_iff_exists.mp hq
  obtain ⟨x, h1, _⟩ := h.1.six.1.1.at hg hct
  rw [nth_app h1, h1]
theorem SVL.out (h : SVL M) : ∃ l : List Int64, gNth M 663 = some (.inl (2, .inr (.inl l))) ∧ l.length = 1 ∧ ∀ z : Int64, SVL (gPut M 663 (.inl (2, .inr (.inl (gPut l 0 z))))) := by
  obtain ⟨l, l1, l2, l3⟩ := h.1.out
  exact ⟨l, l1, l2, fun z9 => ⟨l3 z9, h.2.far (FZ.eq (fun a ha => by rw [nth_put, if_neg (fun q => by omega)]) (fun _ _ q => q) (fun _ q => q) (fun _ q => q))⟩⟩
theorem SVL.six (h : SVL M) : SV6 M := h.1.six
set_option maxRecDepth 200000 in
theorem lp6_0 : ((List.range 32).all (fun k => Nat.beq (oN mem0 196 k) (197 + k))) = true := by decide +kernel
theorem SVL0 : SVL mem0 := ⟨SVG0, fun k hk => Nat.eq_of_beq_eq_true (List.all_eq_true.mp lp6_0 k (List.mem_range.mpr hk))⟩
set_option maxRecDepth 200000 in
theorem pl_0 (hS : SVL M) : ∃ r1 M1 M2, Ev none 999 80 0 [some (.ref 0), some (.int x1), some (.int x2), some (.int x3), some (.int x4), some (.int x5)] [] M (some (.int r1)) M1 0 0 ∧ Ev none 999 136 0 [some (.ref 633), some (.int x1), some (.int x2), some (.int x3), some (.int x4), some (.int x5)] [] M1 (some (.int r1)) M2 0 0 ∧ INV M1 ∧ SVL M2 := by
  obtain ⟨r1, M1, M2, E1, E2, V1, S2⟩ := pg_0 (x1 := x1) (x2 := x2) (x3 := x3) (x4 := x4) (x5 := x5) hS.1
  obtain ⟨_, F1, _⟩ := inv_d (c := kX10_feed) (k := 6) (ws := [.ref 0, .int x1, .int x2, .int x3, .int x4, .int x5]) kX10_feed_ok (by decide +kernel) (by decide +kernel) (by decide) (Two.mk rfl (Two.mk ⟨x1, rfl, i32_any x1⟩ (Two.mk ⟨x2, rfl, i32_any x2⟩ (Two.mk ⟨x3, rfl, i32_any x3⟩ (Two.mk ⟨x4, rfl, i32_any x4⟩ (Two.mk ⟨x5, rfl, i32_any x5⟩ trivial)))))) hS.1.six.1 E1
  obtain ⟨_, F2, _⟩ := inv_d (c := kX11_feed) (k := 6) (ws := [.ref 633, .int x1, .int x2, .int x3, .int x4, .int x5]) kX11_feed_ok (by decide +kernel) (by decide +kernel) (by decide) (Two.mk rfl (Two.mk ⟨x1, rfl, i32_any x1⟩ (Two.mk ⟨x2, rfl, i32_any x2⟩ (Two.mk ⟨x3, rfl, i32_any x3⟩ (Two.mk ⟨x4, rfl, i32_any x4⟩ (Two.mk ⟨x5, rfl, i32_any x5⟩ trivial)))))) V1 E2
  have w1 := hS.2.frm hS.1.six.1.1.sh F1 (by decide +kernel)
  exact ⟨r1, M1, M2, E1, E2, V1, S2, w1.frm V1.1.sh F2 (by decide +kernel)⟩
set_option maxRecDepth 200000 in
theorem pl_1 (hS : SVL M) : ∃ r1 M1 M2, Ev none 999 81 0 [some (.ref 0), some (.int x1)] [] M (some (.int r1)) M1 0 0 ∧ Ev none 999 138 0 [some (.ref 633), some (.int x1)] [] M1 (some (.int r1)) M2 0 0 ∧ INV M1 ∧ SVL M2 := by
  obtain ⟨r1, M1, M2, E1, E2, V1, S2⟩ := pg_1 (x1 := x1) hS.1
  obtain ⟨_, F1, _⟩ := inv_d (c := kX10_end) (k := 2) (ws := [.ref 0, .int x1]) kX10_end_ok (by decide +kernel) (by decide +kernel) (by decide) (Two.mk rfl (Two.mk ⟨x1, rfl, i32_any x1⟩ trivial)) hS.1.six.1 E1
  obtain ⟨_, F2, _⟩ := inv_d (c := kX11_end) (k := 2) (ws := [.ref 633, .int x1]) kX11_end_ok (by decide +kernel) (by decide +kernel) (by decide) (Two.mk rfl (Two.mk ⟨x1, rfl, i32_any x1⟩ trivial)) V1 E2
  have w1 := hS.2.frm hS.1.six.1.1.sh F1 (by decide +kernel)
  exact ⟨r1, M1, M2, E1, E2, V1, S2, w1.frm V1.1.sh F2 (by decide +kernel)⟩
set_option maxRecDepth 200000 in
theorem pl_2 (hS : SVL M) : ∃ r1 M1 M2, Ev none 999 82 0 [some (.ref 0), some (.int x1), some (.int x2), none] [] M (some (.int r1)) M1 0 0 ∧ Ev none 999 155 0 [some (.ref 633), some (.int x1), some (.int x2), none] [] M1 (some (.int r1)) M2 0 0 ∧ INV M1 ∧ SVL M2 := by
  obtain ⟨r1, M1, M2, E1, E2, V1, S2⟩ := pg_2 (x1 := x1) (x2 := x2) hS.1
  obtain ⟨_, F1, _⟩ := inv_d (c := kX10_park) (k := 4) (ws := [.ref 0, .int x1, .int x2]) kX10_park_ok (by decide +kernel) (by decide +kernel) (by decide) (Two.mk rfl (Two.mk ⟨x1, rfl, i32_any x1⟩ (Two.mk ⟨x2, rfl, i32_any x2⟩ trivial))) hS.1.six.1 E1
  obtain ⟨_, F2, _⟩ := inv_d (c := kX11_park) (k := 4) (ws := [.ref 633, .int x1, .int x2]) kX11_park_ok (by decide +kernel) (by decide +kernel) (by decide) (Two.mk rfl (Two.mk ⟨x1, rfl, i32_any x1⟩ (Two.mk ⟨x2, rfl, i32_any x2⟩ trivial))) V1 E2
  have w1 := hS.2.frm hS.1.six.1.1.sh F1 (by decide +kernel)
  exact ⟨r1, M1, M2, E1, E2, V1, S2, w1.frm V1.1.sh F2 (by decide +kernel)⟩
set_option maxRecDepth 200000 in
theorem pl_3 (hS : SVL M) : ∃ r1 M1 M2, Ev none 999 84 0 [some (.ref 0), some (.int x1)] [] M (some (.int r1)) M1 0 0 ∧ Ev none 999 156 0 [some (.ref 633), some (.int x1)] [] M1 (some (.int r1)) M2 0 0 ∧ INV M1 ∧ SVL M2 := by
  obtain ⟨r1, M1, M2, E1, E2, V1, S2⟩ := pg_3 (x1 := x1) hS.1
  obtain ⟨_, F1, _⟩ := inv_d (c := kX10_door) (k := 2) (ws := [.ref 0, .int x1]) kX10_door_ok (by decide +kernel) (by decide +kernel) (by decide) (Two.mk rfl (Two.mk ⟨x1, rfl, i32_any x1⟩ trivial)) hS.1.six.1 E1
  obtain ⟨_, F2, _⟩ := inv_d (c := kX11_door) (k := 2) (ws := [.ref 633, .int x1]) kX11_door_ok (by decide +kernel) (by decide +kernel) (by decide) (Two.mk rfl (Two.mk ⟨x1, rfl, i32_any x1⟩ trivial)) V1 E2
  have w1 := hS.2.frm hS.1.six.1.1.sh F1 (by decide +kernel)
  exact ⟨r1, M1, M2, E1, E2, V1, S2, w1.frm V1.1.sh F2 (by decide +kernel)⟩
set_option maxRecDepth 200000 in
theorem pl_4 (hS : SVL M) : ∃ r1 M1 M2, Ev none 999 85 0 [some (.ref 0), none, none] [] M (some (.int r1)) M1 0 0 ∧ Ev none 999 183 0 [some (.ref 633), none] [] M1 (some (.int r1)) M2 0 0 ∧ INV M1 ∧ SVL M2 := by
  obtain ⟨r1, M1, M2, E1, E2, V1, S2⟩ := pg_4 hS.1
  obtain ⟨_, F1, _⟩ := inv_d (c := kX10_law) (k := 3) (ws := [.ref 0]) kX10_law_ok (by decide +kernel) (by decide +kernel) (by decide) (Two.mk rfl trivial) hS.1.six.1 E1
  obtain ⟨_, F2, _⟩ := inv_d (c := kX11_law) (k := 2) (ws := [.ref 633]) kX11_law_ok (by decide +kernel) (by decide +kernel) (by decide) (Two.mk rfl trivial) V1 E2
  have w1 := hS.2.frm hS.1.six.1.1.sh F1 (by decide +kernel)
  exact ⟨r1, M1, M2, E1, E2, V1, S2, w1.frm V1.1.sh F2 (by decide +kernel)⟩
set_option maxRecDepth 200000 in
theorem pl_5 (hS : SVL M) : ∃ r1 M1 M2, Ev none 999 86 0 [some (.ref 0), some (.int x1), none, none] [] M (some (.int r1)) M1 0 0 ∧ Ev none 999 184 0 [some (.ref 633), some (.int x1)] [] M1 (some (.int r1)) M2 0 0 ∧ INV M1 ∧ SVL M2 := by
  obtain ⟨r1, M1, M2, E1, E2, V1, S2⟩ := pg_5 (x1 := x1) hS.1
  obtain ⟨_, F1, _⟩ := inv_d (c := kX10_habit) (k := 4) (ws := [.ref 0, .int x1]) kX10_habit_ok (by decide +kernel) (by decide +kernel) (by decide) (Two.mk rfl (Two.mk ⟨x1, rfl, i32_any x1⟩ trivial)) hS.1.six.1 E1
  obtain ⟨_, F2, _⟩ := inv_d (c := kX11_habit) (k := 2) (ws := [.ref 633, .int x1]) kX11_habit_ok (by decide +kernel) (by decide +kernel) (by decide) (Two.mk rfl (Two.mk ⟨x1, rfl, i32_any x1⟩ trivial)) V1 E2
  have w1 := hS.2.frm hS.1.six.1.1.sh F1 (by decide +kernel)
  exact ⟨r1, M1, M2, E1, E2, V1, S2, w1.frm V1.1.sh F2 (by decide +kernel)⟩
set_option maxRecDepth 200000 in
theorem pl_6 (hS : SVL M) : ∃ r1 M1 M2, Ev none 999 88 0 [some (.ref 0)] [] M (some (.int r1)) M1 0 0 ∧ Ev none 999 185 0 [some (.ref 633)] [] M1 (some (.int r1)) M2 0 0 ∧ INV M1 ∧ SVL M2 := by
  obtain ⟨r1, M1, M2, E1, E2, V1, S2⟩ := pg_6 hS.1
  obtain ⟨_, F1, _⟩ := inv_d (c := kX10_fault) (k := 1) (ws := [.ref 0]) kX10_fault_ok (by decide +kernel) (by decide +kernel) (by decide) (Two.mk rfl trivial) hS.1.six.1 E1
  obtain ⟨_, F2, _⟩ := inv_d (c := kX11_fault) (k := 1) (ws := [.ref 633]) kX11_fault_ok (by decide +kernel) (by decide +kernel) (by decide) (Two.mk rfl trivial) V1 E2
  have w1 := hS.2.frm hS.1.six.1.1.sh F1 (by decide +kernel)
  exact ⟨r1, M1, M2, E1, E2, V1, S2, w1.frm V1.1.sh F2 (by decide +kernel)⟩
set_option maxRecDepth 200000 in
theorem pl_7 (hS : SVL M) : ∃ r1 M1 M2, Ev none 999 89 0 [some (.ref 0), some (.int x1), some (.int x2), some (.int x3), some (.int x4), some (.int x5), none] [] M (some (.int r1)) M1 0 0 ∧ Ev none 999 190 0 [some (.ref 633), some (.int x1), some (.int x2), some (.int x3), some (.int x4), some (.int x5), none] [] M1 (some (.int r1)) M2 0 0 ∧ INV M1 ∧ SVL M2 := by
  obtain ⟨r1, M1, M2, E1, E2, V1, S2⟩ := pg_7 (x1 := x1) (x2 := x2) (x3 := x3) (x4 := x4) (x5 := x5) hS.1
  obtain ⟨_, F1, _⟩ := inv_d (c := kX10_wish) (k := 7) (ws := [.ref 0, .int x1, .int x2, .int x3, .int x4, .int x5]) kX10_wish_ok (by decide +kernel) (by decide +kernel) (by decide) (Two.mk rfl (Two.mk ⟨x1, rfl, i32_any x1⟩ (Two.mk ⟨x2, rfl, i32_any x2⟩ (Two.mk ⟨x3, rfl, i32_any x3⟩ (Two.mk ⟨x4, rfl, i32_any x4⟩ (Two.mk ⟨x5, rfl, i32_any x5⟩ trivial)))))) hS.1.six.1 E1
  obtain ⟨_, F2, _⟩ := inv_d (c := kX11_wish) (k := 7) (ws := [.ref 633, .int x1, .int x2, .int x3, .int x4, .int x5]) kX11_wish_ok (by decide +kernel) (by decide +kernel) (by decide) (Two.mk rfl (Two.mk ⟨x1, rfl, i32_any x1⟩ (Two.mk ⟨x2, rfl, i32_any x2⟩ (Two.mk ⟨x3, rfl, i32_any x3⟩ (Two.mk ⟨x4, rfl, i32_any x4⟩ (Two.mk ⟨x5, rfl, i32_any x5⟩ trivial)))))) V1 E2
  have w1 := hS.2.frm hS.1.six.1.1.sh F1 (by decide +kernel)
  exact ⟨r1, M1, M2, E1, E2, V1, S2, w1.frm V1.1.sh F2 (by decide +kernel)⟩
set_option maxRecDepth 200000 in
theorem pl_8 (hS : SVL M) : ∃ r1 M1 M2, Ev none 999 90 0 [some (.ref 0), some (.int x1)] [] M (some (.int r1)) M1 0 0 ∧ Ev none 999 191 0 [some (.ref 633), some (.int x1)] [] M1 (some (.int r1)) M2 0 0 ∧ INV M1 ∧ SVL M2 := by
  obtain ⟨r1, M1, M2, E1, E2, V1, S2⟩ := pg_8 (x1 := x1) hS.1
  obtain ⟨_, F1, _⟩ := inv_d (c := kX10_drop) (k := 2) (ws := [.ref 0, .int x1]) kX10_drop_ok (by decide +kernel) (by decide +kernel) (by decide) (Two.mk rfl (Two.mk ⟨x1, rfl, i32_any x1⟩ trivial)) hS.1.six.1 E1
  obtain ⟨_, F2, _⟩ := inv_d (c := kX11_drop) (k := 2) (ws := [.ref 633, .int x1]) kX11_drop_ok (by decide +kernel) (by decide +kernel) (by decide) (Two.mk rfl (Two.mk ⟨x1, rfl, i32_any x1⟩ trivial)) V1 E2
  have w1 := hS.2.frm hS.1.six.1.1.sh F1 (by decide +kernel)
  exact ⟨r1, M1, M2, E1, E2, V1, S2, w1.frm V1.1.sh F2 (by decide +kernel)⟩
set_option maxRecDepth 200000 in
theorem pl_9 (hS : SVL M) : ∃ r1 M1 M2, Ev none 999 91 0 [some (.ref 0), some (.int x1)] [] M (some (.int r1)) M1 0 0 ∧ Ev none 999 207 0 [some (.ref 633), some (.int x1), none] [] M1 (some (.int r1)) M2 0 0 ∧ INV M1 ∧ SVL M2 := by
  obtain ⟨r1, M1, M2, E1, E2, V1, S2⟩ := pg_9 (x1 := x1) hS.1
  obtain ⟨_, F1, _⟩ := inv_d (c := kX10_run) (k := 2) (ws := [.ref 0, .int x1]) kX10_run_ok (by decide +kernel) (by decide +kernel) (by decide) (Two.mk rfl (Two.mk ⟨x1, rfl, i32_any x1⟩ trivial)) hS.1.six.1 E1
  obtain ⟨_, F2, _⟩ := inv_d (c := kX11_run) (k := 3) (ws := [.ref 633, .int x1]) kX11_run_ok (by decide +kernel) (by decide +kernel) (by decide) (Two.mk rfl (Two.mk ⟨x1, rfl, i32_any x1⟩ trivial)) V1 E2
  have w1 := hS.2.frm hS.1.six.1.1.sh F1 (by decide +kernel)
  exact ⟨r1, M1, M2, E1, E2, V1, S2, w1.frm V1.1.sh F2 (by decide +kernel)⟩
set_option maxRecDepth 200000 in
theorem pl_10 (hS : SVL M) : ∃ r1 M1 M2, Ev none 999 92 0 [some (.ref 0)] [] M (some (.int r1)) M1 0 0 ∧ Ev none 999 209 0 [some (.ref 633)] [] M1 (some (.int r1)) M2 0 0 ∧ INV M1 ∧ SVL M2 := by
  obtain ⟨r1, M1, M2, E1, E2, V1, S2⟩ := pg_10 hS.1
  obtain ⟨_, F1, _⟩ := inv_d (c := kX10_week) (k := 1) (ws := [.ref 0]) kX10_week_ok (by decide +kernel) (by decide +kernel) (by decide) (Two.mk rfl trivial) hS.1.six.1 E1
  obtain ⟨_, F2, _⟩ := inv_d (c := kX11_week) (k := 1) (ws := [.ref 633]) kX11_week_ok (by decide +kernel) (by decide +kernel) (by decide) (Two.mk rfl trivial) V1 E2
  have w1 := hS.2.frm hS.1.six.1.1.sh F1 (by decide +kernel)
  exact ⟨r1, M1, M2, E1, E2, V1, S2, w1.frm V1.1.sh F2 (by decide +kernel)⟩
set_option maxRecDepth 200000 in
theorem pl_11 (hS : SVL M) : ∃ r1 M1 M2, Ev none 999 93 0 [some (.ref 0), some (.int x1), none, none] [] M (some (.int r1)) M1 0 0 ∧ Ev none 999 210 0 [some (.ref 633), some (.int x1), none] [] M1 (some (.int r1)) M2 0 0 ∧ INV M1 ∧ SVL M2 := by
  obtain ⟨r1, M1, M2, E1, E2, V1, S2⟩ := pg_11 (x1 := x1) hS.1
  obtain ⟨_, F1, _⟩ := inv_d (c := kX10_rain) (k := 4) (ws := [.ref 0, .int x1]) kX10_rain_ok (by decide +kernel) (by decide +kernel) (by decide) (Two.mk rfl (Two.mk ⟨x1, rfl, i32_any x1⟩ trivial)) hS.1.six.1 E1
  obtain ⟨_, F2, _⟩ := inv_d (c := kX11_rain) (k := 3) (ws := [.ref 633, .int x1]) kX11_rain_ok (by decide +kernel) (by decide +kernel) (by decide) (Two.mk rfl (Two.mk ⟨x1, rfl, i32_any x1⟩ trivial)) V1 E2
  have w1 := hS.2.frm hS.1.six.1.1.sh F1 (by decide +kernel)
  exact ⟨r1, M1, M2, E1, E2, V1, S2, w1.frm V1.1.sh F2 (by decide +kernel)⟩
set_option maxRecDepth 200000 in
theorem pl_12 (hS : SVL M) : ∃ M1 M2, Ev none 999 94 0 [some (.ref 0)] [] M none M1 0 0 ∧ Ev none 999 211 0 [some (.ref 633), none] [] M1 none M2 0 0 ∧ INV M1 ∧ SVL M2 := by
  obtain ⟨M1, M2, E1, E2, V1, S2⟩ := pg_12 hS.1
  obtain ⟨_, F1, _⟩ := inv_d (c := kX10_snow) (k := 1) (ws := [.ref 0]) kX10_snow_ok (by decide +kernel) (by decide +kernel) (by decide) (Two.mk rfl trivial) hS.1.six.1 E1
  obtain ⟨_, F2, _⟩ := inv_d (c := kX11_snow) (k := 2) (ws := [.ref 633]) kX11_snow_ok (by decide +kernel) (by decide +kernel) (by decide) (Two.mk rfl trivial) V1 E2
  have w1 := hS.2.frm hS.1.six.1.1.sh F1 (by decide +kernel)
  exact ⟨M1, M2, E1, E2, V1, S2, w1.frm V1.1.sh F2 (by decide +kernel)⟩
set_option maxRecDepth 200000 in
theorem pl_13 (hS : SVL M) : ∃ r1 M1 M2, Ev none 999 95 0 [some (.ref 0), some (.int x1), some (.int x2)] [] M (some (.int r1)) M1 0 0 ∧ Ev none 999 212 0 [some (.ref 633), some (.int x1), some (.int x2)] [] M1 (some (.int r1)) M2 0 0 ∧ INV M1 ∧ SVL M2 := by
  obtain ⟨r1, M1, M2, E1, E2, V1, S2⟩ := pg_13 (x1 := x1) (x2 := x2) hS.1
  obtain ⟨_, F1, _⟩ := inv_d (c := kX10_lay) (k := 3) (ws := [.ref 0, .int x1, .int x2]) kX10_lay_ok (by decide +kernel) (by decide +kernel) (by decide) (Two.mk rfl (Two.mk ⟨x1, rfl, i32_any x1⟩ (Two.mk ⟨x2, rfl, i32_any x2⟩ trivial))) hS.1.six.1 E1
  obtain ⟨_, F2, _⟩ := inv_d (c := kX11_lay) (k := 3) (ws := [.ref 633, .int x1, .int x2]) kX11_lay_ok (by decide +kernel) (by decide +kernel) (by decide) (Two.mk rfl (Two.mk ⟨x1, rfl, i32_any x1⟩ (Two.mk ⟨x2, rfl, i32_any x2⟩ trivial))) V1 E2
  have w1 := hS.2.frm hS.1.six.1.1.sh F1 (by decide +kernel)
  exact ⟨r1, M1, M2, E1, E2, V1, S2, w1.frm V1.1.sh F2 (by decide +kernel)⟩
set_option maxRecDepth 200000 in
theorem pl_15 (hS : SVL M) : ∃ r1 M1 M2, Ev none 999 96 0 [some (.ref 0), some (.int x1), some (.int x2), none] [] M (some (.int r1)) M1 0 0 ∧ Ev none 999 215 0 [some (.ref 633), some (.int x1), some (.int x2)] [] M1 (some (.int r1)) M2 0 0 ∧ INV M1 ∧ SVL M2 := by
  obtain ⟨r1, M1, M2, E1, E2, V1, S2⟩ := pg_15 (x1 := x1) (x2 := x2) hS.1
  obtain ⟨_, F1, _⟩ := inv_d (c := kX10_walker) (k := 4) (ws := [.ref 0, .int x1, .int x2]) kX10_walker_ok (by decide +kernel) (by decide +kernel) (by decide) (Two.mk rfl (Two.mk ⟨x1, rfl, i32_any x1⟩ (Two.mk ⟨x2, rfl, i32_any x2⟩ trivial))) hS.1.six.1 E1
  obtain ⟨_, F2, _⟩ := inv_d (c := kX11_walker) (k := 3) (ws := [.ref 633, .int x1, .int x2]) kX11_walker_ok (by decide +kernel) (by decide +kernel) (by decide) (Two.mk rfl (Two.mk ⟨x1, rfl, i32_any x1⟩ (Two.mk ⟨x2, rfl, i32_any x2⟩ trivial))) V1 E2
  have w1 := hS.2.frm hS.1.six.1.1.sh F1 (by decide +kernel)
  exact ⟨r1, M1, M2, E1, E2, V1, S2, w1.frm V1.1.sh F2 (by decide +kernel)⟩
set_option maxRecDepth 200000 in
theorem pl_16 (hS : SVL M) : ∃ r1 M1 M2, Ev none 999 97 0 [some (.ref 0)] [] M (some (.int r1)) M1 0 0 ∧ Ev none 999 217 0 [some (.ref 633)] [] M1 (some (.int r1)) M2 0 0 ∧ INV M1 ∧ SVL M2 := by
  obtain ⟨r1, M1, M2, E1, E2, V1, S2⟩ := pg_16 hS.1
  obtain ⟨_, F1, _⟩ := inv_d (c := kX10_net) (k := 1) (ws := [.ref 0]) kX10_net_ok (by decide +kernel) (by decide +kernel) (by decide) (Two.mk rfl trivial) hS.1.six.1 E1
  obtain ⟨_, F2, _⟩ := inv_d (c := kX11_net) (k := 1) (ws := [.ref 633]) kX11_net_ok (by decide +kernel) (by decide +kernel) (by decide) (Two.mk rfl trivial) V1 E2
  have w1 := hS.2.frm hS.1.six.1.1.sh F1 (by decide +kernel)
  exact ⟨r1, M1, M2, E1, E2, V1, S2, w1.frm V1.1.sh F2 (by decide +kernel)⟩
set_option maxRecDepth 200000 in
theorem pl_17 (hS : SVL M) : ∃ r1 r2 M1 M2, Ev none 999 98 0 [some (.ref 0)] [] M (some (.int r1)) M1 0 0 ∧ Ev none 999 218 0 [some (.ref 633), none, none] [] M1 (some (.int r2)) M2 0 0 ∧ INV M1 ∧ SVL M2 := by
  obtain ⟨r1, r2, M1, M2, E1, E2, V1, S2⟩ := pg_17 hS.1
  obtain ⟨_, F1, _⟩ := inv_d (c := kX10_pieces) (k := 1) (ws := [.ref 0]) kX10_pieces_ok (by decide +kernel) (by decide +kernel) (by decide) (Two.mk rfl trivial) hS.1.six.1 E1
  obtain ⟨_, F2, _⟩ := inv_d (c := kX11_pieces) (k := 3) (ws := [.ref 633]) kX11_pieces_ok (by decide +kernel) (by decide +kernel) (by decide) (Two.mk rfl trivial) V1 E2
  have w1 := hS.2.frm hS.1.six.1.1.sh F1 (by decide +kernel)
  exact ⟨r1, r2, M1, M2, E1, E2, V1, S2, w1.frm V1.1.sh F2 (by decide +kernel)⟩
set_option maxRecDepth 200000 in
theorem pl_18 (hS : SVL M) : ∃ r1 M1 M2, Ev none 999 99 0 [some (.ref 0), some (.int x1), some (.int x2), none] [] M (some (.int r1)) M1 0 0 ∧ Ev none 999 223 0 [some (.ref 633), some (.int x1), some (.int x2), none, none] [] M1 (some (.int r1)) M2 0 0 ∧ INV M1 ∧ SVL M2 := by
  obtain ⟨r1, M1, M2, E1, E2, V1, S2⟩ := pg_18 (x1 := x1) (x2 := x2) hS.1
  obtain ⟨_, F1, _⟩ := inv_d (c := kX10_rests) (k := 4) (ws := [.ref 0, .int x1, .int x2]) kX10_rests_ok (by decide +kernel) (by decide +kernel) (by decide) (Two.mk rfl (Two.mk ⟨x1, rfl, i32_any x1⟩ (Two.mk ⟨x2, rfl, i32_any x2⟩ trivial))) hS.1.six.1 E1
  obtain ⟨_, F2, _⟩ := inv_d (c := kX11_rests) (k := 5) (ws := [.ref 633, .int x1, .int x2]) kX11_rests_ok (by decide +kernel) (by decide +kernel) (by decide) (Two.mk rfl (Two.mk ⟨x1, rfl, i32_any x1⟩ (Two.mk ⟨x2, rfl, i32_any x2⟩ trivial))) V1 E2
  have w1 := hS.2.frm hS.1.six.1.1.sh F1 (by decide +kernel)
  exact ⟨r1, M1, M2, E1, E2, V1, S2, w1.frm V1.1.sh F2 (by decide +kernel)⟩
set_option maxRecDepth 200000 in
theorem pl_19 (hS : SVL M) : ∃ r1 M1 M2, Ev none 999 100 0 [some (.ref 0), none] [] M (some (.int r1)) M1 0 0 ∧ Ev none 999 225 0 [some (.ref 633), none, none, none, none, none, none, none] [] M1 (some (.int r1)) M2 0 0 ∧ INV M1 ∧ SVL M2 := by
  obtain ⟨r1, r2, M1, M2, E1, E2, V1, S2⟩ := pg_19 hS.1
  obtain ⟨_, F1, _⟩ := inv_d (c := kX10_least) (k := 2) (ws := [.ref 0]) kX10_least_ok (by decide +kernel) (by decide +kernel) (by decide) (Two.mk rfl trivial) hS.1.six.1 E1
  obtain ⟨_, F2, _⟩ := inv_d (c := kX11_least) (k := 8) (ws := [.ref 633]) kX11_least_ok (by decide +kernel) (by decide +kernel) (by decide) (Two.mk rfl trivial) V1 E2
  have w1 := hS.2.frm hS.1.six.1.1.sh F1 (by decide +kernel)
  have w2 := w1.frm V1.1.sh F2 (by decide +kernel)
  have hOG := hS.1.2
  obtain ⟨z, y, l, lb, lt, T, P, PI, hB, hN, hC, hD, hR, hI⟩ := hS.1.1
  have Q1 : SQ M1 := ⟨V1.1.sh, hB.2.1.frm hB.1.1.sh F1 (by decide +kernel)⟩
  have R1 : RST T P M1 := hR.frm Q1 F1 (by decide +kernel)
  have W1 : LR z M1 := hB.2.2.2.1.frm F1 (md_no (by decide +kernel))
  have B1 : BR lt M1 := hB.2.2.2.2.2.2.2.1.frm F1 (md_no (by decide +kernel))
  have ez := hB.2.2.1.zi
  have ew := W1.zi
  have hbl := hB.2.2.2.2.2.2.1.bl hN
  have hbr := B1.bl
  have hO : okG P := hOG.pp hR hC.ok.1
  have hu := unD_of V1 R1
  have C := cles_ok (o := bL lt) hC hB.1 (by decide) hO hS.2 (fun j hj => hbl j (by rw [ez] at hj; omega)) ez E1
  have R := rles_ok (o := bL lt) R1 hC.ok.1 hu hO (fun j _ => congrFun hbr j) ew E2
  have er : (some (Value.int r1)) = some (Value.int r2) := by
    rcases C with ⟨c1, c2⟩ | ⟨c1, c2, c3⟩ | ⟨c1, c2, c3⟩ <;> rcases R with ⟨d1, d2⟩ | ⟨d1, d2, d3⟩ | ⟨d1, d2, d3⟩
    · rw [c2, d2]
    · exact absurd d1 c1
    · exact absurd d1 c1
    · exact absurd c1 d1
    · rw [c3, d3]
    · exact absurd d2 c2
    · exact absurd c1 d1
    · exact absurd c2 d2
    · have n1 : 2 ≤ z.toInt := c1.1
      have n6 : z.toInt ≤ 6 := c1.2
      have hd := (c2 (z.toInt.toNat - 1) (by omega)).1
      refine les_al (m := z.toInt.toNat - 1) hC.ok.1.1 (by omega) (by omega) (door_n hC.ok.1 hd).2 c3 ?_
      rw [show z.toInt.toNat - 1 + 1 = z.toInt.toNat by omega]
      exact d3
  cases er
  exact ⟨r1, M1, M2, E1, E2, V1, S2, w2⟩
set_option maxRecDepth 200000 in
theorem pl_20 (hS : SVL M) : ∃ r1 r2 M1 M2, Ev none 999 102 0 [some (.ref 0), some (.int x1), some (.int x2)] [] M (some (.int r1)) M1 0 0 ∧ Ev none 999 228 0 [some (.ref 633), some (.int x1), some (.int x2), none, none] [] M1 (some (.int r2)) M2 0 0 ∧ INV M1 ∧ SVL M2 := by
  obtain ⟨r1, r2, M1, M2, E1, E2, V1, S2⟩ := pg_20 (x1 := x1) (x2 := x2) hS.1
  obtain ⟨_, F1, _⟩ := inv_d (c := kX10_longer) (k := 3) (ws := [.ref 0, .int x1, .int x2]) kX10_longer_ok (by decide +kernel) (by decide +kernel) (by decide) (Two.mk rfl (Two.mk ⟨x1, rfl, i32_any x1⟩ (Two.mk ⟨x2, rfl, i32_any x2⟩ trivial))) hS.1.six.1 E1
  obtain ⟨_, F2, _⟩ := inv_d (c := kX11_longer) (k := 5) (ws := [.ref 633, .int x1, .int x2]) kX11_longer_ok (by decide +kernel) (by decide +kernel) (by decide) (Two.mk rfl (Two.mk ⟨x1, rfl, i32_any x1⟩ (Two.mk ⟨x2, rfl, i32_any x2⟩ trivial))) V1 E2
  have w1 := hS.2.frm hS.1.six.1.1.sh F1 (by decide +kernel)
  exact ⟨r1, r2, M1, M2, E1, E2, V1, S2, w1.frm V1.1.sh F2 (by decide +kernel)⟩
set_option maxRecDepth 200000 in
theorem pl_21 (hS : SVL M) : ∃ r1 M1 M2, Ev none 999 103 0 [some (.ref 0), some (.int x1), some (.int x2), some (.int x3), some (.int x4), none, none, none, none, none, none] [] M (some (.int r1)) M1 0 0 ∧ Ev none 999 229 0 [some (.ref 633), some (.int x1), some (.int x2), some (.int x3), some (.int x4), none, none, none, none, none] [] M1 (some (.int r1)) M2 0 0 ∧ INV M1 ∧ SVL M2 := by
  obtain ⟨r1, M1, M2, E1, E2, V1, S2⟩ := pg_21 (x1 := x1) (x2 := x2) (x3 := x3) (x4 := x4) hS.1
  obtain ⟨_, F1, _⟩ := inv_d (c := kX10_turns) (k := 11) (ws := [.ref 0, .int x1, .int x2, .int x3, .int x4]) kX10_turns_ok (by decide +kernel) (by decide +kernel) (by decide) (Two.mk rfl (Two.mk ⟨x1, rfl, i32_any x1⟩ (Two.mk ⟨x2, rfl, i32_any x2⟩ (Two.mk ⟨x3, rfl, i32_any x3⟩ (Two.mk ⟨x4, rfl, i32_any x4⟩ trivial))))) hS.1.six.1 E1
  obtain ⟨_, F2, _⟩ := inv_d (c := kX11_turns) (k := 10) (ws := [.ref 633, .int x1, .int x2, .int x3, .int x4]) kX11_turns_ok (by decide +kernel) (by decide +kernel) (by decide) (Two.mk rfl (Two.mk ⟨x1, rfl, i32_any x1⟩ (Two.mk ⟨x2, rfl, i32_any x2⟩ (Two.mk ⟨x3, rfl, i32_any x3⟩ (Two.mk ⟨x4, rfl, i32_any x4⟩ trivial))))) V1 E2
  have w1 := hS.2.frm hS.1.six.1.1.sh F1 (by decide +kernel)
  exact ⟨r1, M1, M2, E1, E2, V1, S2, w1.frm V1.1.sh F2 (by decide +kernel)⟩
set_option maxRecDepth 200000 in
theorem pl_22 (hS : SVL M) : ∃ r1 M1 M2, Ev none 999 104 0 [some (.ref 0), some (.int x1), some (.int x2), some (.int x3), some (.int x4)] [] M (some (.int r1)) M1 0 0 ∧ Ev none 999 231 0 [some (.ref 633), some (.int x1), some (.int x2), some (.int x3), some (.int x4)] [] M1 (some (.int r1)) M2 0 0 ∧ INV M1 ∧ SVL M2 := by
  obtain ⟨r1, M1, M2, E1, E2, V1, S2⟩ := pg_22 (x1 := x1) (x2 := x2) (x3 := x3) (x4 := x4) hS.1
  obtain ⟨_, F1, _⟩ := inv_d (c := kX10_paved) (k := 5) (ws := [.ref 0, .int x1, .int x2, .int x3, .int x4]) kX10_paved_ok (by decide +kernel) (by decide +kernel) (by decide) (Two.mk rfl (Two.mk ⟨x1, rfl, i32_any x1⟩ (Two.mk ⟨x2, rfl, i32_any x2⟩ (Two.mk ⟨x3, rfl, i32_any x3⟩ (Two.mk ⟨x4, rfl, i32_any x4⟩ trivial))))) hS.1.six.1 E1
  obtain ⟨_, F2, _⟩ := inv_d (c := kX11_paved) (k := 5) (ws := [.ref 633, .int x1, .int x2, .int x3, .int x4]) kX11_paved_ok (by decide +kernel) (by decide +kernel) (by decide) (Two.mk rfl (Two.mk ⟨x1, rfl, i32_any x1⟩ (Two.mk ⟨x2, rfl, i32_any x2⟩ (Two.mk ⟨x3, rfl, i32_any x3⟩ (Two.mk ⟨x4, rfl, i32_any x4⟩ trivial))))) V1 E2
  have w1 := hS.2.frm hS.1.six.1.1.sh F1 (by decide +kernel)
  exact ⟨r1, M1, M2, E1, E2, V1, S2, w1.frm V1.1.sh F2 (by decide +kernel)⟩
set_option maxRecDepth 200000 in
theorem pl_23 (hS : SVL M) : ∃ r1 M1 M2, Ev none 999 105 0 [some (.ref 0), some (.int x1), some (.int x2), none, none, none, none] [] M (some (.int r1)) M1 0 0 ∧ Ev none 999 232 0 [some (.ref 633), some (.int x1), some (.int x2), none, none, none, none] [] M1 (some (.int r1)) M2 0 0 ∧ INV M1 ∧ SVL M2 := by
  obtain ⟨r1, M1, M2, E1, E2, V1, S2⟩ := pg_23 (x1 := x1) (x2 := x2) hS.1
  obtain ⟨_, F1, _⟩ := inv_d (c := kX10_wait) (k := 7) (ws := [.ref 0, .int x1, .int x2]) kX10_wait_ok (by decide +kernel) (by decide +kernel) (by decide) (Two.mk rfl (Two.mk ⟨x1, rfl, i32_any x1⟩ (Two.mk ⟨x2, rfl, i32_any x2⟩ trivial))) hS.1.six.1 E1
  obtain ⟨_, F2, _⟩ := inv_d (c := kX11_wait) (k := 7) (ws := [.ref 633, .int x1, .int x2]) kX11_wait_ok (by decide +kernel) (by decide +kernel) (by decide) (Two.mk rfl (Two.mk ⟨x1, rfl, i32_any x1⟩ (Two.mk ⟨x2, rfl, i32_any x2⟩ trivial))) V1 E2
  have w1 := hS.2.frm hS.1.six.1.1.sh F1 (by decide +kernel)
  exact ⟨r1, M1, M2, E1, E2, V1, S2, w1.frm V1.1.sh F2 (by decide +kernel)⟩
set_option maxRecDepth 200000 in
theorem pl_24 (hS : SVL M) : ∃ r1 M1 M2, Ev none 999 108 0 [some (.ref 0), some (.int x1), some (.int x2), none] [] M (some (.int r1)) M1 0 0 ∧ Ev none 999 235 0 [some (.ref 633), some (.int x1), some (.int x2), none, none, none] [] M1 (some (.int r1)) M2 0 0 ∧ INV M1 ∧ SVL M2 := by
  obtain ⟨r1, M1, M2, E1, E2, V1, S2⟩ := pg_24 (x1 := x1) (x2 := x2) hS.1
  obtain ⟨_, F1, _⟩ := inv_d (c := kX10_fences) (k := 4) (ws := [.ref 0, .int x1, .int x2]) kX10_fences_ok (by decide +kernel) (by decide +kernel) (by decide) (Two.mk rfl (Two.mk ⟨x1, rfl, i32_any x1⟩ (Two.mk ⟨x2, rfl, i32_any x2⟩ trivial))) hS.1.six.1 E1
  obtain ⟨_, F2, _⟩ := inv_d (c := kX11_fences) (k := 6) (ws := [.ref 633, .int x1, .int x2]) kX11_fences_ok (by decide +kernel) (by decide +kernel) (by decide) (Two.mk rfl (Two.mk ⟨x1, rfl, i32_any x1⟩ (Two.mk ⟨x2, rfl, i32_any x2⟩ trivial))) V1 E2
  have w1 := hS.2.frm hS.1.six.1.1.sh F1 (by decide +kernel)
  exact ⟨r1, M1, M2, E1, E2, V1, S2, w1.frm V1.1.sh F2 (by decide +kernel)⟩
set_option maxRecDepth 200000 in
theorem pl_25 (hS : SVL M) : ∃ r1 r2 M1 M2, Ev none 999 113 0 [some (.ref 0), some (.int x1)] [] M (some (.int r1)) M1 0 0 ∧ Ev none 999 236 0 [some (.ref 633), some (.int x1)] [] M1 (some (.int r2)) M2 0 0 ∧ INV M1 ∧ SVL M2 := by
  obtain ⟨r1, r2, M1, M2, E1, E2, V1, S2⟩ := pg_25 (x1 := x1) hS.1
  obtain ⟨_, F1, _⟩ := inv_d (c := kX10_fenceAt) (k := 2) (ws := [.ref 0, .int x1]) kX10_fenceAt_ok (by decide +kernel) (by decide +kernel) (by decide) (Two.mk rfl (Two.mk ⟨x1, rfl, i32_any x1⟩ trivial)) hS.1.six.1 E1
  obtain ⟨_, F2, _⟩ := inv_d (c := kX11_fenceAt) (k := 2) (ws := [.ref 633, .int x1]) kX11_fenceAt_ok (by decide +kernel) (by decide +kernel) (by decide) (Two.mk rfl (Two.mk ⟨x1, rfl, i32_any x1⟩ trivial)) V1 E2
  have w1 := hS.2.frm hS.1.six.1.1.sh F1 (by decide +kernel)
  exact ⟨r1, r2, M1, M2, E1, E2, V1, S2, w1.frm V1.1.sh F2 (by decide +kernel)⟩
set_option maxRecDepth 200000 in
theorem pl_26 (hS : SVL M) : ∃ r1 M1 M2, Ev none 999 114 0 [some (.ref 0), some (.int x1), some (.int x2), some (.int x3), some (.int x4), none] [] M (some (.int r1)) M1 0 0 ∧ Ev none 999 237 0 [some (.ref 633), some (.int x1), some (.int x2), some (.int x3), some (.int x4), none, none] [] M1 (some (.int r1)) M2 0 0 ∧ INV M1 ∧ SVL M2 := by
  obtain ⟨r1, M1, M2, E1, E2, V1, S2⟩ := pg_26 (x1 := x1) (x2 := x2) (x3 := x3) (x4 := x4) hS.1
  obtain ⟨_, F1, _⟩ := inv_d (c := kX10_lasts) (k := 6) (ws := [.ref 0, .int x1, .int x2, .int x3, .int x4]) kX10_lasts_ok (by decide +kernel) (by decide +kernel) (by decide) (Two.mk rfl (Two.mk ⟨x1, rfl, i32_any x1⟩ (Two.mk ⟨x2, rfl, i32_any x2⟩ (Two.mk ⟨x3, rfl, i32_any x3⟩ (Two.mk ⟨x4, rfl, i32_any x4⟩ trivial))))) hS.1.six.1 E1
  obtain ⟨_, F2, _⟩ := inv_d (c := kX11_lasts) (k := 7) (ws := [.ref 633, .int x1, .int x2, .int x3, .int x4]) kX11_lasts_ok (by decide +kernel) (by decide +kernel) (by decide) (Two.mk rfl (Two.mk ⟨x1, rfl, i32_any x1⟩ (Two.mk ⟨x2, rfl, i32_any x2⟩ (Two.mk ⟨x3, rfl, i32_any x3⟩ (Two.mk ⟨x4, rfl, i32_any x4⟩ trivial))))) V1 E2
  have w1 := hS.2.frm hS.1.six.1.1.sh F1 (by decide +kernel)
  exact ⟨r1, M1, M2, E1, E2, V1, S2, w1.frm V1.1.sh F2 (by decide +kernel)⟩
set_option maxRecDepth 200000 in
theorem pl_27 (hS : SVL M) : ∃ r1 M1 M2, Ev none 999 115 0 [some (.ref 0), some (.int x1), some (.int x2), some (.int x3), none] [] M (some (.int r1)) M1 0 0 ∧ Ev none 999 240 0 [some (.ref 633), some (.int x1), some (.int x2), some (.int x3), none, none] [] M1 (some (.int r1)) M2 0 0 ∧ INV M1 ∧ SVL M2 := by
  obtain ⟨r1, M1, M2, E1, E2, V1, S2⟩ := pg_27 (x1 := x1) (x2 := x2) (x3 := x3) hS.1
  obtain ⟨_, F1, _⟩ := inv_d (c := kX10_way) (k := 5) (ws := [.ref 0, .int x1, .int x2, .int x3]) kX10_way_ok (by decide +kernel) (by decide +kernel) (by decide) (Two.mk rfl (Two.mk ⟨x1, rfl, i32_any x1⟩ (Two.mk ⟨x2, rfl, i32_any x2⟩ (Two.mk ⟨x3, rfl, i32_any x3⟩ trivial)))) hS.1.six.1 E1
  obtain ⟨_, F2, _⟩ := inv_d (c := kX11_way) (k := 6) (ws := [.ref 633, .int x1, .int x2, .int x3]) kX11_way_ok (by decide +kernel) (by decide +kernel) (by decide) (Two.mk rfl (Two.mk ⟨x1, rfl, i32_any x1⟩ (Two.mk ⟨x2, rfl, i32_any x2⟩ (Two.mk ⟨x3, rfl, i32_any x3⟩ trivial)))) V1 E2
  have w1 := hS.2.frm hS.1.six.1.1.sh F1 (by decide +kernel)
  exact ⟨r1, M1, M2, E1, E2, V1, S2, w1.frm V1.1.sh F2 (by decide +kernel)⟩
set_option maxRecDepth 200000 in
theorem pl_28 (hS : SVL M) : ∃ r1 r2 M1 M2, Ev none 999 116 0 [some (.ref 0), some (.int x1)] [] M (some (.int r1)) M1 0 0 ∧ Ev none 999 241 0 [some (.ref 633), some (.int x1)] [] M1 (some (.int r2)) M2 0 0 ∧ INV M1 ∧ SVL M2 := by
  obtain ⟨r1, r2, M1, M2, E1, E2, V1, S2⟩ := pg_28 (x1 := x1) hS.1
  obtain ⟨_, F1, _⟩ := inv_d (c := kX10_wayAt) (k := 2) (ws := [.ref 0, .int x1]) kX10_wayAt_ok (by decide +kernel) (by decide +kernel) (by decide) (Two.mk rfl (Two.mk ⟨x1, rfl, i32_any x1⟩ trivial)) hS.1.six.1 E1
  obtain ⟨_, F2, _⟩ := inv_d (c := kX11_wayAt) (k := 2) (ws := [.ref 633, .int x1]) kX11_wayAt_ok (by decide +kernel) (by decide +kernel) (by decide) (Two.mk rfl (Two.mk ⟨x1, rfl, i32_any x1⟩ trivial)) V1 E2
  have w1 := hS.2.frm hS.1.six.1.1.sh F1 (by decide +kernel)
  exact ⟨r1, r2, M1, M2, E1, E2, V1, S2, w1.frm V1.1.sh F2 (by decide +kernel)⟩
set_option maxRecDepth 200000 in
theorem pl_29 (hS : SVL M) : ∃ r1 r2 M1 M2, Ev none 999 117 0 [some (.ref 0), none] [] M (some (.int r1)) M1 0 0 ∧ Ev none 999 242 0 [some (.ref 633), none, none, none, none, none, none] [] M1 (some (.int r2)) M2 0 0 ∧ INV M1 ∧ SVL M2 := by
  obtain ⟨r1, r2, M1, M2, E1, E2, V1, S2⟩ := pg_29 hS.1
  obtain ⟨_, F1, _⟩ := inv_d (c := kX10_read) (k := 2) (ws := [.ref 0]) kX10_read_ok (by decide +kernel) (by decide +kernel) (by decide) (Two.mk rfl trivial) hS.1.six.1 E1
  obtain ⟨_, F2, _⟩ := inv_d (c := kX11_read_) (k := 7) (ws := [.ref 633]) kX11_read__ok (by decide +kernel) (by decide +kernel) (by decide) (Two.mk rfl trivial) V1 E2
  have w1 := hS.2.frm hS.1.six.1.1.sh F1 (by decide +kernel)
  exact ⟨r1, r2, M1, M2, E1, E2, V1, S2, w1.frm V1.1.sh F2 (by decide +kernel)⟩
set_option maxRecDepth 200000 in
theorem pl_30 (hS : SVL M) : ∃ r1 r2 M1 M2, Ev none 999 119 0 [some (.ref 0), some (.int x1), some (.int x2)] [] M (some (.int r1)) M1 0 0 ∧ Ev none 999 244 0 [some (.ref 633), some (.int x1), some (.int x2)] [] M1 (some (.int r2)) M2 0 0 ∧ INV M1 ∧ SVL M2 := by
  obtain ⟨r1, r2, M1, M2, E1, E2, V1, S2⟩ := pg_30 (x1 := x1) (x2 := x2) hS.1
  obtain ⟨_, F1, _⟩ := inv_d (c := kX10_reads) (k := 3) (ws := [.ref 0, .int x1, .int x2]) kX10_reads_ok (by decide +kernel) (by decide +kernel) (by decide) (Two.mk rfl (Two.mk ⟨x1, rfl, i32_any x1⟩ (Two.mk ⟨x2, rfl, i32_any x2⟩ trivial))) hS.1.six.1 E1
  obtain ⟨_, F2, _⟩ := inv_d (c := kX11_reads) (k := 3) (ws := [.ref 633, .int x1, .int x2]) kX11_reads_ok (by decide +kernel) (by decide +kernel) (by decide) (Two.mk rfl (Two.mk ⟨x1, rfl, i32_any x1⟩ (Two.mk ⟨x2, rfl, i32_any x2⟩ trivial))) V1 E2
  have w1 := hS.2.frm hS.1.six.1.1.sh F1 (by decide +kernel)
  exact ⟨r1, r2, M1, M2, E1, E2, V1, S2, w1.frm V1.1.sh F2 (by decide +kernel)⟩
set_option maxRecDepth 200000 in
theorem pl_31 (hS : SVL M) : ∃ r1 r2 M1 M2, Ev none 999 120 0 [some (.ref 0), some (.int x1), some (.int x2), none] [] M (some (.int r1)) M1 0 0 ∧ Ev none 999 245 0 [some (.ref 633), some (.int x1), some (.int x2), none, none, none, none] [] M1 (some (.int r2)) M2 0 0 ∧ INV M1 ∧ SVL M2 := by
  obtain ⟨r1, r2, M1, M2, E1, E2, V1, S2⟩ := pg_31 (x1 := x1) (x2 := x2) hS.1
  obtain ⟨_, F1, _⟩ := inv_d (c := kX10_fits) (k := 4) (ws := [.ref 0, .int x1, .int x2]) kX10_fits_ok (by decide +kernel) (by decide +kernel) (by decide) (Two.mk rfl (Two.mk ⟨x1, rfl, i32_any x1⟩ (Two.mk ⟨x2, rfl, i32_any x2⟩ trivial))) hS.1.six.1 E1
  obtain ⟨_, F2, _⟩ := inv_d (c := kX11_fits) (k := 7) (ws := [.ref 633, .int x1, .int x2]) kX11_fits_ok (by decide +kernel) (by decide +kernel) (by decide) (Two.mk rfl (Two.mk ⟨x1, rfl, i32_any x1⟩ (Two.mk ⟨x2, rfl, i32_any x2⟩ trivial))) V1 E2
  have w1 := hS.2.frm hS.1.six.1.1.sh F1 (by decide +kernel)
  exact ⟨r1, r2, M1, M2, E1, E2, V1, S2, w1.frm V1.1.sh F2 (by decide +kernel)⟩
set_option maxRecDepth 200000 in
theorem pl_32 (hS : SVL M) : ∃ r1 M1 M2, Ev none 999 123 0 [some (.ref 0), some (.int x1)] [] M (some (.int r1)) M1 0 0 ∧ Ev none 999 246 0 [some (.ref 633), some (.int x1), none] [] M1 (some (.int r1)) M2 0 0 ∧ INV M1 ∧ SVL M2 := by
  obtain ⟨r1, M1, M2, E1, E2, V1, S2⟩ := pg_32 (x1 := x1) hS.1
  obtain ⟨_, F1, _⟩ := inv_d (c := kX10_image) (k := 2) (ws := [.ref 0, .int x1]) kX10_image_ok (by decide +kernel) (by decide +kernel) (by decide) (Two.mk rfl (Two.mk ⟨x1, rfl, i32_any x1⟩ trivial)) hS.1.six.1 E1
  obtain ⟨_, F2, _⟩ := inv_d (c := kX11_image) (k := 3) (ws := [.ref 633, .int x1]) kX11_image_ok (by decide +kernel) (by decide +kernel) (by decide) (Two.mk rfl (Two.mk ⟨x1, rfl, i32_any x1⟩ trivial)) V1 E2
  have w1 := hS.2.frm hS.1.six.1.1.sh F1 (by decide +kernel)
  exact ⟨r1, M1, M2, E1, E2, V1, S2, w1.frm V1.1.sh F2 (by decide +kernel)⟩
set_option maxRecDepth 200000 in
theorem pl_33 (hS : SVL M) : ∃ r1 M1 M2, Ev none 999 124 0 [some (.ref 0), some (.int x1)] [] M (some (.int r1)) M1 0 0 ∧ Ev none 999 247 0 [some (.ref 633), some (.int x1), none] [] M1 (some (.int r1)) M2 0 0 ∧ INV M1 ∧ SVL M2 := by
  obtain ⟨r1, M1, M2, E1, E2, V1, S2⟩ := pg_33 (x1 := x1) hS.1
  obtain ⟨_, F1, _⟩ := inv_d (c := kX10_restore) (k := 2) (ws := [.ref 0, .int x1]) kX10_restore_ok (by decide +kernel) (by decide +kernel) (by decide) (Two.mk rfl (Two.mk ⟨x1, rfl, i32_any x1⟩ trivial)) hS.1.six.1 E1
  obtain ⟨_, F2, _⟩ := inv_d (c := kX11_restore) (k := 3) (ws := [.ref 633, .int x1]) kX11_restore_ok (by decide +kernel) (by decide +kernel) (by decide) (Two.mk rfl (Two.mk ⟨x1, rfl, i32_any x1⟩ trivial)) V1 E2
  have w1 := hS.2.frm hS.1.six.1.1.sh F1 (by decide +kernel)
  exact ⟨r1, M1, M2, E1, E2, V1, S2, w1.frm V1.1.sh F2 (by decide +kernel)⟩
set_option maxRecDepth 200000 in
theorem pl_34 (hS : SVL M) : ∃ r1 M1 M2, Ev none 999 125 0 [some (.ref 0), some (.int x1)] [] M (some (.int r1)) M1 0 0 ∧ Ev none 999 248 0 [some (.ref 633), some (.int x1), none, none] [] M1 (some (.int r1)) M2 0 0 ∧ INV M1 ∧ SVL M2 := by
  obtain ⟨r1, M1, M2, E1, E2, V1, S2⟩ := pg_34 (x1 := x1) hS.1
  obtain ⟨_, F1, _⟩ := inv_d (c := kX10_count) (k := 2) (ws := [.ref 0, .int x1]) kX10_count_ok (by decide +kernel) (by decide +kernel) (by decide) (Two.mk rfl (Two.mk ⟨x1, rfl, i32_any x1⟩ trivial)) hS.1.six.1 E1
  obtain ⟨_, F2, _⟩ := inv_d (c := kX11_count) (k := 4) (ws := [.ref 633, .int x1]) kX11_count_ok (by decide +kernel) (by decide +kernel) (by decide) (Two.mk rfl (Two.mk ⟨x1, rfl, i32_any x1⟩ trivial)) V1 E2
  have w1 := hS.2.frm hS.1.six.1.1.sh F1 (by decide +kernel)
  exact ⟨r1, M1, M2, E1, E2, V1, S2, w1.frm V1.1.sh F2 (by decide +kernel)⟩
set_option maxRecDepth 200000 in
theorem pl_14 (hS : SVL M) : ∃ r M2, Ev none 999 214 0 [some (.ref 633), some (.int x1), some (.int x2)] [] M (some (.int r)) M2 0 0 ∧ SVL M2 := by
  obtain ⟨r, M2, E2, S2⟩ := pg_14 (x1 := x1) (x2 := x2) hS.1
  obtain ⟨_, F2, _⟩ := inv_d (c := kX11_cell) (k := 3) (ws := [.ref 633, .int x1, .int x2]) kX11_cell_ok (by decide +kernel) (by decide +kernel) (by decide) (Two.mk rfl (Two.mk ⟨x1, rfl, i32_any x1⟩ (Two.mk ⟨x2, rfl, i32_any x2⟩ trivial))) hS.1.six.1 E2
  exact ⟨r, M2, E2, S2, hS.2.frm hS.1.six.1.1.sh F2 (by decide +kernel)⟩
end LPKEEP
