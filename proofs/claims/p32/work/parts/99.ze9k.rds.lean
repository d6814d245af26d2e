/-! WHAT IS KEPT OF A READING, beside the whole state (made by grds.py) -/
def RDX (M : Mem) : Prop := (∀ k, k < 5 → oN M 230 k = 231 + k) ∧ zI M 229 8 = zI M 633 62 ∧ ∀ j : Nat, (j : Int) < (zI M 229 8).toInt → rN M 241 j = rN M 660 j ∧ rN M 242 j = rN M 661 j
noncomputable def rdcB (md : Md) : Bool := (!mdIn md 4 8) && (mdC md [1054] && mdC md [1055])
noncomputable def rdrB (md : Md) : Bool := (!mdIn md 11 62) && (mdC md [1088] && mdC md [1089])
noncomputable def rdxB (md : Md) : Bool := mdC md [1047] && (rdcB md && rdrB md)
def SVR (M : Mem) : Prop := SV7 M ∧ RDX M
set_option maxRecDepth 200000 in
theorem rdx_g : gpB 230 [47] = true ∧ gpB 241 [54] = true ∧ gpB 242 [55] = true ∧ gpB 660 [88] = true ∧ gpB 661 [89] = true ∧ oB 46 4 = true := by refine ⟨?_, ?_, ?_, ?_, ?_, ?_⟩ <;> decide +kernel
section RDKEEP
variable {x1 x2 x3 x4 x5 k i w : Int32} {e : Nat} {M M1 M2 M' : Mem} {md : Md} {v v1 v2 : Option Value} {T : TS} {P X : PK}
theorem KEEP.frm (hS : SH M) (hF : Frm sT md M M') (hB : rdcB md = true) : KEEP M M' := by
  obtain ⟨b1, hB⟩ := and_t hB
  obtain ⟨b2, b3⟩ := and_t hB
  have hZ := frm_fz hS hF
  exact ⟨hZ.fi (one_F qa_229 rdx_g.2.2.2.2.2 b1), fun j => ⟨hZ.rn (gpB_W rdx_g.2.1 b2), hZ.rn (gpB_W rdx_g.2.2.1 b3)⟩⟩
theorem KEPR.frm (hS : SH M) (hF : Frm sT md M M') (hB : rdrB md = true) : KEPR M M' := by
  obtain ⟨b1, hB⟩ := and_t hB
  obtain ⟨b2, b3⟩ := and_t hB
  have hZ := frm_fz hS hF
  exact ⟨hZ.fi (one_F qa_633 qo_61 b1), fun j => ⟨hZ.rn (gpB_W rdx_g.2.2.2.1 b2), hZ.rn (gpB_W rdx_g.2.2.2.2.1 b3)⟩⟩
theorem rdx_230 (hS : SH M) (hF : Frm sT md M M') (hB : mdC md [1047] = true) : ∀ k, oN M' 230 k = oN M 230 k := fun _ => (frm_fz hS hF).on (gpB_W rdx_g.1 hB)
theorem RDX.tr (h : RDX M) (o : ∀ k, oN M' 230 k = oN M 230 k) (a : KEEP M M') (b : KEPR M M') : RDX M' := by
  obtain ⟨h1, h2, h3⟩ := h
  refine ⟨fun k hk => (o k).trans (h1 k hk), by rw [a.1, b.1]; exact h2, fun j hj => ?_⟩
  rw [a.1] at hj
  rw [(a.2 j).1, (a.2 j).2, (b.2 j).1, (b.2 j).2]
  exact h3 j hj
theorem RDX.frm (h : RDX M) (hS : SH M) (hF : Frm sT md M M') (hB : rdxB md = true) : RDX M' := by
  obtain ⟨b1, hB⟩ := and_t hB
  obtain ⟨b2, b3⟩ := and_t hB
  exact h.tr (rdx_230 hS hF b1) (KEEP.frm hS hF b2) (KEPR.frm hS hF b3)
theorem RDX.far (h : RDX M) (hF : FZ fF fW fW M M') : RDX M' := h.tr (fun k => hF.on (by unfold fW; omega)) (KEEP.fz hF (by unfold fF; omega) (by unfold fW; omega) (by unfold fW; omega)) (KEPR.fz hF (by unfold fF; omega) (by unfold fW; omega) (by unfold fW; omega))
theorem SVR.app (h : SVR M) (e : AE) : SVR (M ++ [e]) := by
  refine ⟨h.1.app e, h.2.far (FZ.eq (fun a ha => ?_) (fun _ _ q => q) (fun _ q => q) (fun _ q => q))⟩
  obtain ⟨g, hg⟩ : ∃ g, gNth sT a = some g := by
    rw [nth_eq]
    exact ⟨_, List.getElem?_eq_getElem (by rw [st_len]; omega)⟩
  have hq := List.all_eq_true.mp st_gr a (List.mem_range.mpr (by omega))
  rw [hg] at hq
  have hq : (gNth sG g).isSome = true := hq
  obtain ⟨ct, hct⟩ := Option.isSome_iff_exists.mp hq
  obtain ⟨x, h1, _⟩ := h.1.six.1.1.at hg hct
  rw [nth_app h1, h1]
theorem SVR.out (h : SVR M) : ∃ l : List Int64, gNth M 663 = some (.inl (2, .inr (.inl l))) ∧ l.length = 1 ∧ ∀ z : Int64, SVR (gPut M 663 (.inl (2, .inr (.inl (gPut l 0 z))))) := by
  obtain ⟨l, l1, l2, l3⟩ := h.1.out
  exact ⟨l, l1, l2, fun z9 => ⟨l3 z9, h.2.far (FZ.eq (fun a ha => by rw [nth_put, if_neg (fun q => by omega)]) (fun _ _ q => q) (fun _ q => q) (fun _ q => q))⟩⟩
theorem SVR.six (h : SVR M) : SV6 M := h.1.six
set_option maxRecDepth 200000 in
theorem rdx_0 : (oN mem0 230 0 = 231 ∧ oN mem0 230 1 = 232 ∧ oN mem0 230 2 = 233 ∧ oN mem0 230 3 = 234 ∧ oN mem0 230 4 = 235) ∧ zI mem0 229 8 = 0 ∧ zI mem0 633 62 = 0 := by refine ⟨⟨?_, ?_, ?_, ?_, ?_⟩, ?_, ?_⟩ <;> decide +kernel
theorem SVR0 : SVR mem0 := by
  refine ⟨SV70, fun k hk => ?_, by rw [rdx_0.2.1, rdx_0.2.2], fun j hj => ?_⟩
  · match k, hk with
    | 0, _ => exact rdx_0.1.1
    | 1, _ => exact rdx_0.1.2.1
    | 2, _ => exact rdx_0.1.2.2.1
    | 3, _ => exact rdx_0.1.2.2.2.1
    | 4, _ => exact rdx_0.1.2.2.2.2
    | _ + 5, hk => omega
  · rw [rdx_0.2.1] at hj
    have t0 : (0 : Int32).toInt = 0 := rfl
    omega
set_option maxRecDepth 200000 in
theorem rdx_5 : fiB 46 4 8 0 5 = true := by decide +kernel
/-- reads tells what is kept -/
theorem rds_al (hS : SQ M) (hI : INV M) (hF : RDX M) (E1 : Ev none e 119 0 [some (.ref 0), some (.int i), some (.int w)] [] M v1 M1 0 0) (E2 : Ev none e 244 0 [some (.ref 633), some (.int i), some (.int w)] [] M1 v2 M2 0 0) : v1 = v2 := by
  obtain ⟨_, h62, hrow⟩ := hF
  obtain ⟨z0, z5⟩ := hI.1.zIn qa_229 rdx_5
  have C := rds_0 hS E1
  have eM : M1 = M := by
    rcases C with ⟨_, _, q⟩ | ⟨_, _, _, _, q⟩ | ⟨_, _, _, _, _, q⟩ | ⟨_, _, _, _, q⟩ <;> exact q
  rw [eM] at E2
  have R := rdz_0 hS E2
  have m8 : (zI M 229 8 - 1).toInt = (zI M 229 8).toInt - 1 := i32_m1 (by omega)
  by_cases hi : inX i 0 (zI M 229 8 - 1)
  · have n1 : ¬ G_126 M i 0 (zI M 229 8 - 1) = 0 := fun q => (g126_R.mp q) hi
    have n2 : ¬ G_140 (wF M 633 0 0) i 0 (zI M 633 62 - 1) = 0 := fun q => (g140_R.mp q) (by rw [← h62]; exact hi)
    have i0 : 0 ≤ i.toInt := hi.1
    have i1 : i.toInt ≤ (zI M 229 8 - 1).toInt := hi.2
    have p : i.toInt = ((i.toInt.toNat : Nat) : Int) := by omega
    have row : rI M 241 i = rI M 660 i ∧ rI M 242 i = rI M 661 i := by
      rw [rI_n p, rI_n p, rI_n p, rI_n p]
      exact hrow _ (by omega)
    by_cases w0 : w = 0
    · have n3 : ¬ G_140 (wF M 633 0 0) w 0 1 = 0 := fun q => (g140_R.mp q) (by rw [w0]; exact ⟨by decide, by decide⟩)
      rcases C with ⟨c1, _⟩ | ⟨_, _, _, c2, _⟩ | ⟨_, c3, _⟩ | ⟨_, c3, _⟩
      · exact absurd c1 n1
      · rcases R with ⟨d1, _⟩ | ⟨_, d3, _⟩ | ⟨_, _, _, _, d2, _⟩ | ⟨_, _, d4, _⟩
        · exact absurd d1 n2
        · exact absurd d3 n3
        · rw [c2, d2, row.1]
        · exact absurd w0 d4
      all_goals exact absurd w0 c3
    · by_cases w1 : w = 1
      · have n3 : ¬ G_140 (wF M 633 0 0) w 0 1 = 0 := fun q => (g140_R.mp q) (by rw [w1]; exact ⟨by decide, by decide⟩)
        rcases C with ⟨c1, _⟩ | ⟨_, c3, _⟩ | ⟨_, _, _, _, c2, _⟩ | ⟨_, _, c3, _⟩
        · exact absurd c1 n1
        · exact absurd c3 w0
        · rcases R with ⟨d1, _⟩ | ⟨_, d3, _⟩ | ⟨_, _, d4, _⟩ | ⟨_, _, _, _, d2, _⟩
          · exact absurd d1 n2
          · exact absurd d3 n3
          · exact absurd d4 w0
          · rw [c2, d2, row.2]
        · exact absurd w1 c3
      · have t1 : (1 : Int32).toInt = 1 := rfl
        have t0 : (0 : Int32).toInt = 0 := rfl
        have n3 : G_140 (wF M 633 0 0) w 0 1 = 0 := g140_R.mpr (fun q => by
          have a := q.1
          have b := q.2
          by_cases g : w.toInt = 0
          · exact w0 (Int32.toInt_inj.mp (by omega))
          · exact w1 (Int32.toInt_inj.mp (by omega)))
        rcases C with ⟨_, c2, _⟩ | ⟨_, c3, _⟩ | ⟨_, _, c3, _⟩ | ⟨_, _, _, c2, _⟩
        · rcases R with ⟨_, d2, _⟩ | ⟨_, _, d2, _⟩ | ⟨_, d3, _⟩ | ⟨_, d3, _⟩
          · rw [c2, d2]
          · rw [c2, d2]
          all_goals exact absurd n3 d3
        · exact absurd c3 w0
        · exact absurd c3 w1
        · rcases R with ⟨_, d2, _⟩ | ⟨_, _, d2, _⟩ | ⟨_, d3, _⟩ | ⟨_, d3, _⟩
          · rw [c2, d2]
          · rw [c2, d2]
          all_goals exact absurd n3 d3
  · have n1 : G_126 M i 0 (zI M 229 8 - 1) = 0 := g126_R.mpr hi
    have n2 : G_140 (wF M 633 0 0) i 0 (zI M 633 62 - 1) = 0 := g140_R.mpr (by rw [← h62]; exact hi)
    rcases C with ⟨_, c2, _⟩ | ⟨c1, _⟩ | ⟨c1, _⟩ | ⟨c1, _⟩
    · rcases R with ⟨_, d2, _⟩ | ⟨d1, _⟩ | ⟨d1, _⟩ | ⟨d1, _⟩
      · rw [c2, d2]
      all_goals exact absurd n2 d1
    all_goals exact absurd n1 c1
set_option maxRecDepth 200000 in
theorem pw_0 (hS : SVR M) : ∃ r1 M1 M2, Ev none 999 80 0 [some (.ref 0), some (.int x1), some (.int x2), some (.int x3), some (.int x4), some (.int x5)] [] M (some (.int r1)) M1 0 0 ∧ Ev none 999 136 0 [some (.ref 633), some (.int x1), some (.int x2), some (.int x3), some (.int x4), some (.int x5)] [] M1 (some (.int r1)) M2 0 0 ∧ INV M1 ∧ SVR M2 := by
  obtain ⟨r1, M1, M2, E1, E2, V1, S2⟩ := pj_0 (x1 := x1) (x2 := x2) (x3 := x3) (x4 := x4) (x5 := x5) hS.1
  obtain ⟨_, F1, _⟩ := inv_d (c := kX10_feed) (k := 6) (ws := [.ref 0, .int x1, .int x2, .int x3, .int x4, .int x5]) kX10_feed_ok (by decide +kernel) (by decide +kernel) (by decide) (Two.mk rfl (Two.mk ⟨x1, rfl, i32_any x1⟩ (Two.mk ⟨x2, rfl, i32_any x2⟩ (Two.mk ⟨x3, rfl, i32_any x3⟩ (Two.mk ⟨x4, rfl, i32_any x4⟩ (Two.mk ⟨x5, rfl, i32_any x5⟩ trivial)))))) hS.1.six.1 E1
  obtain ⟨_, F2, _⟩ := inv_d (c := kX11_feed) (k := 6) (ws := [.ref 633, .int x1, .int x2, .int x3, .int x4, .int x5]) kX11_feed_ok (by decide +kernel) (by decide +kernel) (by decide) (Two.mk rfl (Two.mk ⟨x1, rfl, i32_any x1⟩ (Two.mk ⟨x2, rfl, i32_any x2⟩ (Two.mk ⟨x3, rfl, i32_any x3⟩ (Two.mk ⟨x4, rfl, i32_any x4⟩ (Two.mk ⟨x5, rfl, i32_any x5⟩ trivial)))))) V1 E2
  have w1 := hS.2.frm hS.1.six.1.1.sh F1 (by decide +kernel)
  exact ⟨r1, M1, M2, E1, E2, V1, S2, w1.frm V1.1.sh F2 (by decide +kernel)⟩
set_option maxRecDepth 200000 in
theorem pw_1 (hS : SVR M) : ∃ r1 M1 M2, Ev none 999 81 0 [some (.ref 0), some (.int x1)] [] M (some (.int r1)) M1 0 0 ∧ Ev none 999 138 0 [some (.ref 633), some (.int x1)] [] M1 (some (.int r1)) M2 0 0 ∧ INV M1 ∧ SVR M2 := by
  obtain ⟨r1, M1, M2, E1, E2, V1, S2⟩ := pj_1 (x1 := x1) hS.1
  obtain ⟨_, F1, _⟩ := inv_d (c := kX10_end) (k := 2) (ws := [.ref 0, .int x1]) kX10_end_ok (by decide +kernel) (by decide +kernel) (by decide) (Two.mk rfl (Two.mk ⟨x1, rfl, i32_any x1⟩ trivial)) hS.1.six.1 E1
  obtain ⟨_, F2, _⟩ := inv_d (c := kX11_end) (k := 2) (ws := [.ref 633, .int x1]) kX11_end_ok (by decide +kernel) (by decide +kernel) (by decide) (Two.mk rfl (Two.mk ⟨x1, rfl, i32_any x1⟩ trivial)) V1 E2
  have w1 := hS.2.frm hS.1.six.1.1.sh F1 (by decide +kernel)
  exact ⟨r1, M1, M2, E1, E2, V1, S2, w1.frm V1.1.sh F2 (by decide +kernel)⟩
set_option maxRecDepth 200000 in
theorem pw_2 (hS : SVR M) : ∃ r1 M1 M2, Ev none 999 82 0 [some (.ref 0), some (.int x1), some (.int x2), none] [] M (some (.int r1)) M1 0 0 ∧ Ev none 999 155 0 [some (.ref 633), some (.int x1), some (.int x2), none] [] M1 (some (.int r1)) M2 0 0 ∧ INV M1 ∧ SVR M2 := by
  obtain ⟨r1, M1, M2, E1, E2, V1, S2⟩ := pj_2 (x1 := x1) (x2 := x2) hS.1
  obtain ⟨_, F1, _⟩ := inv_d (c := kX10_park) (k := 4) (ws := [.ref 0, .int x1, .int x2]) kX10_park_ok (by decide +kernel) (by decide +kernel) (by decide) (Two.mk rfl (Two.mk ⟨x1, rfl, i32_any x1⟩ (Two.mk ⟨x2, rfl, i32_any x2⟩ trivial))) hS.1.six.1 E1
  obtain ⟨_, F2, _⟩ := inv_d (c := kX11_park) (k := 4) (ws := [.ref 633, .int x1, .int x2]) kX11_park_ok (by decide +kernel) (by decide +kernel) (by decide) (Two.mk rfl (Two.mk ⟨x1, rfl, i32_any x1⟩ (Two.mk ⟨x2, rfl, i32_any x2⟩ trivial))) V1 E2
  have w1 := hS.2.frm hS.1.six.1.1.sh F1 (by decide +kernel)
  exact ⟨r1, M1, M2, E1, E2, V1, S2, w1.frm V1.1.sh F2 (by decide +kernel)⟩
set_option maxRecDepth 200000 in
theorem pw_3 (hS : SVR M) : ∃ r1 M1 M2, Ev none 999 84 0 [some (.ref 0), some (.int x1)] [] M (some (.int r1)) M1 0 0 ∧ Ev none 999 156 0 [some (.ref 633), some (.int x1)] [] M1 (some (.int r1)) M2 0 0 ∧ INV M1 ∧ SVR M2 := by
  obtain ⟨r1, M1, M2, E1, E2, V1, S2⟩ := pj_3 (x1 := x1) hS.1
  obtain ⟨_, F1, _⟩ := inv_d (c := kX10_door) (k := 2) (ws := [.ref 0, .int x1]) kX10_door_ok (by decide +kernel) (by decide +kernel) (by decide) (Two.mk rfl (Two.mk ⟨x1, rfl, i32_any x1⟩ trivial)) hS.1.six.1 E1
  obtain ⟨_, F2, _⟩ := inv_d (c := kX11_door) (k := 2) (ws := [.ref 633, .int x1]) kX11_door_ok (by decide +kernel) (by decide +kernel) (by decide) (Two.mk rfl (Two.mk ⟨x1, rfl, i32_any x1⟩ trivial)) V1 E2
  have w1 := hS.2.frm hS.1.six.1.1.sh F1 (by decide +kernel)
  exact ⟨r1, M1, M2, E1, E2, V1, S2, w1.frm V1.1.sh F2 (by decide +kernel)⟩
set_option maxRecDepth 200000 in
theorem pw_4 (hS : SVR M) : ∃ r1 M1 M2, Ev none 999 85 0 [some (.ref 0), none, none] [] M (some (.int r1)) M1 0 0 ∧ Ev none 999 183 0 [some (.ref 633), none] [] M1 (some (.int r1)) M2 0 0 ∧ INV M1 ∧ SVR M2 := by
  obtain ⟨r1, M1, M2, E1, E2, V1, S2⟩ := pj_4 hS.1
  obtain ⟨_, F1, _⟩ := inv_d (c := kX10_law) (k := 3) (ws := [.ref 0]) kX10_law_ok (by decide +kernel) (by decide +kernel) (by decide) (Two.mk rfl trivial) hS.1.six.1 E1
  obtain ⟨_, F2, _⟩ := inv_d (c := kX11_law) (k := 2) (ws := [.ref 633]) kX11_law_ok (by decide +kernel) (by decide +kernel) (by decide) (Two.mk rfl trivial) V1 E2
  have w1 := hS.2.frm hS.1.six.1.1.sh F1 (by decide +kernel)
  exact ⟨r1, M1, M2, E1, E2, V1, S2, w1.frm V1.1.sh F2 (by decide +kernel)⟩
set_option maxRecDepth 200000 in
theorem pw_5 (hS : SVR M) : ∃ r1 M1 M2, Ev none 999 86 0 [some (.ref 0), some (.int x1), none, none] [] M (some (.int r1)) M1 0 0 ∧ Ev none 999 184 0 [some (.ref 633), some (.int x1)] [] M1 (some (.int r1)) M2 0 0 ∧ INV M1 ∧ SVR M2 := by
  obtain ⟨r1, M1, M2, E1, E2, V1, S2⟩ := pj_5 (x1 := x1) hS.1
  obtain ⟨_, F1, _⟩ := inv_d (c := kX10_habit) (k := 4) (ws := [.ref 0, .int x1]) kX10_habit_ok (by decide +kernel) (by decide +kernel) (by decide) (Two.mk rfl (Two.mk ⟨x1, rfl, i32_any x1⟩ trivial)) hS.1.six.1 E1
  obtain ⟨_, F2, _⟩ := inv_d (c := kX11_habit) (k := 2) (ws := [.ref 633, .int x1]) kX11_habit_ok (by decide +kernel) (by decide +kernel) (by decide) (Two.mk rfl (Two.mk ⟨x1, rfl, i32_any x1⟩ trivial)) V1 E2
  have w1 := hS.2.frm hS.1.six.1.1.sh F1 (by decide +kernel)
  exact ⟨r1, M1, M2, E1, E2, V1, S2, w1.frm V1.1.sh F2 (by decide +kernel)⟩
set_option maxRecDepth 200000 in
theorem pw_6 (hS : SVR M) : ∃ r1 M1 M2, Ev none 999 88 0 [some (.ref 0)] [] M (some (.int r1)) M1 0 0 ∧ Ev none 999 185 0 [some (.ref 633)] [] M1 (some (.int r1)) M2 0 0 ∧ INV M1 ∧ SVR M2 := by
  obtain ⟨r1, M1, M2, E1, E2, V1, S2⟩ := pj_6 hS.1
  obtain ⟨_, F1, _⟩ := inv_d (c := kX10_fault) (k := 1) (ws := [.ref 0]) kX10_fault_ok (by decide +kernel) (by decide +kernel) (by decide) (Two.mk rfl trivial) hS.1.six.1 E1
  obtain ⟨_, F2, _⟩ := inv_d (c := kX11_fault) (k := 1) (ws := [.ref 633]) kX11_fault_ok (by decide +kernel) (by decide +kernel) (by decide) (Two.mk rfl trivial) V1 E2
  have w1 := hS.2.frm hS.1.six.1.1.sh F1 (by decide +kernel)
  exact ⟨r1, M1, M2, E1, E2, V1, S2, w1.frm V1.1.sh F2 (by decide +kernel)⟩
set_option maxRecDepth 200000 in
theorem pw_7 (hS : SVR M) : ∃ r1 M1 M2, Ev none 999 89 0 [some (.ref 0), some (.int x1), some (.int x2), some (.int x3), some (.int x4), some (.int x5), none] [] M (some (.int r1)) M1 0 0 ∧ Ev none 999 190 0 [some (.ref 633), some (.int x1), some (.int x2), some (.int x3), some (.int x4), some (.int x5), none] [] M1 (some (.int r1)) M2 0 0 ∧ INV M1 ∧ SVR M2 := by
  obtain ⟨r1, M1, M2, E1, E2, V1, S2⟩ := pj_7 (x1 := x1) (x2 := x2) (x3 := x3) (x4 := x4) (x5 := x5) hS.1
  obtain ⟨_, F1, _⟩ := inv_d (c := kX10_wish) (k := 7) (ws := [.ref 0, .int x1, .int x2, .int x3, .int x4, .int x5]) kX10_wish_ok (by decide +kernel) (by decide +kernel) (by decide) (Two.mk rfl (Two.mk ⟨x1, rfl, i32_any x1⟩ (Two.mk ⟨x2, rfl, i32_any x2⟩ (Two.mk ⟨x3, rfl, i32_any x3⟩ (Two.mk ⟨x4, rfl, i32_any x4⟩ (Two.mk ⟨x5, rfl, i32_any x5⟩ trivial)))))) hS.1.six.1 E1
  obtain ⟨_, F2, _⟩ := inv_d (c := kX11_wish) (k := 7) (ws := [.ref 633, .int x1, .int x2, .int x3, .int x4, .int x5]) kX11_wish_ok (by decide +kernel) (by decide +kernel) (by decide) (Two.mk rfl (Two.mk ⟨x1, rfl, i32_any x1⟩ (Two.mk ⟨x2, rfl, i32_any x2⟩ (Two.mk ⟨x3, rfl, i32_any x3⟩ (Two.mk ⟨x4, rfl, i32_any x4⟩ (Two.mk ⟨x5, rfl, i32_any x5⟩ trivial)))))) V1 E2
  have w1 := hS.2.frm hS.1.six.1.1.sh F1 (by decide +kernel)
  exact ⟨r1, M1, M2, E1, E2, V1, S2, w1.frm V1.1.sh F2 (by decide +kernel)⟩
set_option maxRecDepth 200000 in
theorem pw_8 (hS : SVR M) : ∃ r1 M1 M2, Ev none 999 90 0 [some (.ref 0), some (.int x1)] [] M (some (.int r1)) M1 0 0 ∧ Ev none 999 191 0 [some (.ref 633), some (.int x1)] [] M1 (some (.int r1)) M2 0 0 ∧ INV M1 ∧ SVR M2 := by
  obtain ⟨r1, M1, M2, E1, E2, V1, S2⟩ := pj_8 (x1 := x1) hS.1
  obtain ⟨_, F1, _⟩ := inv_d (c := kX10_drop) (k := 2) (ws := [.ref 0, .int x1]) kX10_drop_ok (by decide +kernel) (by decide +kernel) (by decide) (Two.mk rfl (Two.mk ⟨x1, rfl, i32_any x1⟩ trivial)) hS.1.six.1 E1
  obtain ⟨_, F2, _⟩ := inv_d (c := kX11_drop) (k := 2) (ws := [.ref 633, .int x1]) kX11_drop_ok (by decide +kernel) (by decide +kernel) (by decide) (Two.mk rfl (Two.mk ⟨x1, rfl, i32_any x1⟩ trivial)) V1 E2
  have w1 := hS.2.frm hS.1.six.1.1.sh F1 (by decide +kernel)
  exact ⟨r1, M1, M2, E1, E2, V1, S2, w1.frm V1.1.sh F2 (by decide +kernel)⟩
set_option maxRecDepth 200000 in
theorem pw_9 (hS : SVR M) : ∃ r1 M1 M2, Ev none 999 91 0 [some (.ref 0), some (.int x1)] [] M (some (.int r1)) M1 0 0 ∧ Ev none 999 207 0 [some (.ref 633), some (.int x1), none] [] M1 (some (.int r1)) M2 0 0 ∧ INV M1 ∧ SVR M2 := by
  obtain ⟨r1, M1, M2, E1, E2, V1, S2⟩ := pj_9 (x1 := x1) hS.1
  obtain ⟨_, F1, _⟩ := inv_d (c := kX10_run) (k := 2) (ws := [.ref 0, .int x1]) kX10_run_ok (by decide +kernel) (by decide +kernel) (by decide) (Two.mk rfl (Two.mk ⟨x1, rfl, i32_any x1⟩ trivial)) hS.1.six.1 E1
  obtain ⟨_, F2, _⟩ := inv_d (c := kX11_run) (k := 3) (ws := [.ref 633, .int x1]) kX11_run_ok (by decide +kernel) (by decide +kernel) (by decide) (Two.mk rfl (Two.mk ⟨x1, rfl, i32_any x1⟩ trivial)) V1 E2
  have w1 := hS.2.frm hS.1.six.1.1.sh F1 (by decide +kernel)
  exact ⟨r1, M1, M2, E1, E2, V1, S2, w1.frm V1.1.sh F2 (by decide +kernel)⟩
set_option maxRecDepth 200000 in
theorem pw_10 (hS : SVR M) : ∃ r1 M1 M2, Ev none 999 92 0 [some (.ref 0)] [] M (some (.int r1)) M1 0 0 ∧ Ev none 999 209 0 [some (.ref 633)] [] M1 (some (.int r1)) M2 0 0 ∧ INV M1 ∧ SVR M2 := by
  obtain ⟨r1, M1, M2, E1, E2, V1, S2⟩ := pj_10 hS.1
  obtain ⟨_, F1, _⟩ := inv_d (c := kX10_week) (k := 1) (ws := [.ref 0]) kX10_week_ok (by decide +kernel) (by decide +kernel) (by decide) (Two.mk rfl trivial) hS.1.six.1 E1
  obtain ⟨_, F2, _⟩ := inv_d (c := kX11_week) (k := 1) (ws := [.ref 633]) kX11_week_ok (by decide +kernel) (by decide +kernel) (by decide) (Two.mk rfl trivial) V1 E2
  have w1 := hS.2.frm hS.1.six.1.1.sh F1 (by decide +kernel)
  exact ⟨r1, M1, M2, E1, E2, V1, S2, w1.frm V1.1.sh F2 (by decide +kernel)⟩
set_option maxRecDepth 200000 in
theorem pw_11 (hS : SVR M) : ∃ r1 M1 M2, Ev none 999 93 0 [some (.ref 0), some (.int x1), none, none] [] M (some (.int r1)) M1 0 0 ∧ Ev none 999 210 0 [some (.ref 633), some (.int x1), none] [] M1 (some (.int r1)) M2 0 0 ∧ INV M1 ∧ SVR M2 := by
  obtain ⟨r1, M1, M2, E1, E2, V1, S2⟩ := pj_11 (x1 := x1) hS.1
  obtain ⟨_, F1, _⟩ := inv_d (c := kX10_rain) (k := 4) (ws := [.ref 0, .int x1]) kX10_rain_ok (by decide +kernel) (by decide +kernel) (by decide) (Two.mk rfl (Two.mk ⟨x1, rfl, i32_any x1⟩ trivial)) hS.1.six.1 E1
  obtain ⟨_, F2, _⟩ := inv_d (c := kX11_rain) (k := 3) (ws := [.ref 633, .int x1]) kX11_rain_ok (by decide +kernel) (by decide +kernel) (by decide) (Two.mk rfl (Two.mk ⟨x1, rfl, i32_any x1⟩ trivial)) V1 E2
  have w1 := hS.2.frm hS.1.six.1.1.sh F1 (by decide +kernel)
  exact ⟨r1, M1, M2, E1, E2, V1, S2, w1.frm V1.1.sh F2 (by decide +kernel)⟩
set_option maxRecDepth 200000 in
theorem pw_12 (hS : SVR M) : ∃ M1 M2, Ev none 999 94 0 [some (.ref 0)] [] M none M1 0 0 ∧ Ev none 999 211 0 [some (.ref 633), none] [] M1 none M2 0 0 ∧ INV M1 ∧ SVR M2 := by
  obtain ⟨M1, M2, E1, E2, V1, S2⟩ := pj_12 hS.1
  obtain ⟨_, F1, _⟩ := inv_d (c := kX10_snow) (k := 1) (ws := [.ref 0]) kX10_snow_ok (by decide +kernel) (by decide +kernel) (by decide) (Two.mk rfl trivial) hS.1.six.1 E1
  obtain ⟨_, F2, _⟩ := inv_d (c := kX11_snow) (k := 2) (ws := [.ref 633]) kX11_snow_ok (by decide +kernel) (by decide +kernel) (by decide) (Two.mk rfl trivial) V1 E2
  have w1 := hS.2.frm hS.1.six.1.1.sh F1 (by decide +kernel)
  exact ⟨M1, M2, E1, E2, V1, S2, w1.frm V1.1.sh F2 (by decide +kernel)⟩
set_option maxRecDepth 200000 in
theorem pw_13 (hS : SVR M) : ∃ r1 M1 M2, Ev none 999 95 0 [some (.ref 0), some (.int x1), some (.int x2)] [] M (some (.int r1)) M1 0 0 ∧ Ev none 999 212 0 [some (.ref 633), some (.int x1), some (.int x2)] [] M1 (some (.int r1)) M2 0 0 ∧ INV M1 ∧ SVR M2 := by
  obtain ⟨r1, M1, M2, E1, E2, V1, S2⟩ := pj_13 (x1 := x1) (x2 := x2) hS.1
  obtain ⟨_, F1, _⟩ := inv_d (c := kX10_lay) (k := 3) (ws := [.ref 0, .int x1, .int x2]) kX10_lay_ok (by decide +kernel) (by decide +kernel) (by decide) (Two.mk rfl (Two.mk ⟨x1, rfl, i32_any x1⟩ (Two.mk ⟨x2, rfl, i32_any x2⟩ trivial))) hS.1.six.1 E1
  obtain ⟨_, F2, _⟩ := inv_d (c := kX11_lay) (k := 3) (ws := [.ref 633, .int x1, .int x2]) kX11_lay_ok (by decide +kernel) (by decide +kernel) (by decide) (Two.mk rfl (Two.mk ⟨x1, rfl, i32_any x1⟩ (Two.mk ⟨x2, rfl, i32_any x2⟩ trivial))) V1 E2
  have w1 := hS.2.frm hS.1.six.1.1.sh F1 (by decide +kernel)
  exact ⟨r1, M1, M2, E1, E2, V1, S2, w1.frm V1.1.sh F2 (by decide +kernel)⟩
set_option maxRecDepth 200000 in
theorem pw_15 (hS : SVR M) : ∃ r1 M1 M2, Ev none 999 96 0 [some (.ref 0), some (.int x1), some (.int x2), none] [] M (some (.int r1)) M1 0 0 ∧ Ev none 999 215 0 [some (.ref 633), some (.int x1), some (.int x2)] [] M1 (some (.int r1)) M2 0 0 ∧ INV M1 ∧ SVR M2 := by
  obtain ⟨r1, M1, M2, E1, E2, V1, S2⟩ := pj_15 (x1 := x1) (x2 := x2) hS.1
  obtain ⟨_, F1, _⟩ := inv_d (c := kX10_walker) (k := 4) (ws := [.ref 0, .int x1, .int x2]) kX10_walker_ok (by decide +kernel) (by decide +kernel) (by decide) (Two.mk rfl (Two.mk ⟨x1, rfl, i32_any x1⟩ (Two.mk ⟨x2, rfl, i32_any x2⟩ trivial))) hS.1.six.1 E1
  obtain ⟨_, F2, _⟩ := inv_d (c := kX11_walker) (k := 3) (ws := [.ref 633, .int x1, .int x2]) kX11_walker_ok (by decide +kernel) (by decide +kernel) (by decide) (Two.mk rfl (Two.mk ⟨x1, rfl, i32_any x1⟩ (Two.mk ⟨x2, rfl, i32_any x2⟩ trivial))) V1 E2
  have w1 := hS.2.frm hS.1.six.1.1.sh F1 (by decide +kernel)
  exact ⟨r1, M1, M2, E1, E2, V1, S2, w1.frm V1.1.sh F2 (by decide +kernel)⟩
set_option maxRecDepth 200000 in
theorem pw_16 (hS : SVR M) : ∃ r1 M1 M2, Ev none 999 97 0 [some (.ref 0)] [] M (some (.int r1)) M1 0 0 ∧ Ev none 999 217 0 [some (.ref 633)] [] M1 (some (.int r1)) M2 0 0 ∧ INV M1 ∧ SVR M2 := by
  obtain ⟨r1, M1, M2, E1, E2, V1, S2⟩ := pj_16 hS.1
  obtain ⟨_, F1, _⟩ := inv_d (c := kX10_net) (k := 1) (ws := [.ref 0]) kX10_net_ok (by decide +kernel) (by decide +kernel) (by decide) (Two.mk rfl trivial) hS.1.six.1 E1
  obtain ⟨_, F2, _⟩ := inv_d (c := kX11_net) (k := 1) (ws := [.ref 633]) kX11_net_ok (by decide +kernel) (by decide +kernel) (by decide) (Two.mk rfl trivial) V1 E2
  have w1 := hS.2.frm hS.1.six.1.1.sh F1 (by decide +kernel)
  exact ⟨r1, M1, M2, E1, E2, V1, S2, w1.frm V1.1.sh F2 (by decide +kernel)⟩
set_option maxRecDepth 200000 in
theorem pw_17 (hS : SVR M) : ∃ r1 r2 M1 M2, Ev none 999 98 0 [some (.ref 0)] [] M (some (.int r1)) M1 0 0 ∧ Ev none 999 218 0 [some (.ref 633), none, none] [] M1 (some (.int r2)) M2 0 0 ∧ INV M1 ∧ SVR M2 := by
  obtain ⟨r1, r2, M1, M2, E1, E2, V1, S2⟩ := pj_17 hS.1
  obtain ⟨_, F1, _⟩ := inv_d (c := kX10_pieces) (k := 1) (ws := [.ref 0]) kX10_pieces_ok (by decide +kernel) (by decide +kernel) (by decide) (Two.mk rfl trivial) hS.1.six.1 E1
  obtain ⟨_, F2, _⟩ := inv_d (c := kX11_pieces) (k := 3) (ws := [.ref 633]) kX11_pieces_ok (by decide +kernel) (by decide +kernel) (by decide) (Two.mk rfl trivial) V1 E2
  have w1 := hS.2.frm hS.1.six.1.1.sh F1 (by decide +kernel)
  exact ⟨r1, r2, M1, M2, E1, E2, V1, S2, w1.frm V1.1.sh F2 (by decide +kernel)⟩
set_option maxRecDepth 200000 in
theorem pw_18 (hS : SVR M) : ∃ r1 M1 M2, Ev none 999 99 0 [some (.ref 0), some (.int x1), some (.int x2), none] [] M (some (.int r1)) M1 0 0 ∧ Ev none 999 223 0 [some (.ref 633), some (.int x1), some (.int x2), none, none] [] M1 (some (.int r1)) M2 0 0 ∧ INV M1 ∧ SVR M2 := by
  obtain ⟨r1, M1, M2, E1, E2, V1, S2⟩ := pj_18 (x1 := x1) (x2 := x2) hS.1
  obtain ⟨_, F1, _⟩ := inv_d (c := kX10_rests) (k := 4) (ws := [.ref 0, .int x1, .int x2]) kX10_rests_ok (by decide +kernel) (by decide +kernel) (by decide) (Two.mk rfl (Two.mk ⟨x1, rfl, i32_any x1⟩ (Two.mk ⟨x2, rfl, i32_any x2⟩ trivial))) hS.1.six.1 E1
  obtain ⟨_, F2, _⟩ := inv_d (c := kX11_rests) (k := 5) (ws := [.ref 633, .int x1, .int x2]) kX11_rests_ok (by decide +kernel) (by decide +kernel) (by decide) (Two.mk rfl (Two.mk ⟨x1, rfl, i32_any x1⟩ (Two.mk ⟨x2, rfl, i32_any x2⟩ trivial))) V1 E2
  have w1 := hS.2.frm hS.1.six.1.1.sh F1 (by decide +kernel)
  exact ⟨r1, M1, M2, E1, E2, V1, S2, w1.frm V1.1.sh F2 (by decide +kernel)⟩
set_option maxRecDepth 200000 in
theorem pw_19 (hS : SVR M) : ∃ r1 r2 M1 M2, Ev none 999 100 0 [some (.ref 0), none] [] M (some (.int r1)) M1 0 0 ∧ Ev none 999 225 0 [some (.ref 633), none, none, none, none, none, none, none] [] M1 (some (.int r2)) M2 0 0 ∧ INV M1 ∧ SVR M2 := by
  obtain ⟨r1, r2, M1, M2, E1, E2, V1, S2⟩ := pj_19 hS.1
  obtain ⟨_, F1, _⟩ := inv_d (c := kX10_least) (k := 2) (ws := [.ref 0]) kX10_least_ok (by decide +kernel) (by decide +kernel) (by decide) (Two.mk rfl trivial) hS.1.six.1 E1
  obtain ⟨_, F2, _⟩ := inv_d (c := kX11_least) (k := 8) (ws := [.ref 633]) kX11_least_ok (by decide +kernel) (by decide +kernel) (by decide) (Two.mk rfl trivial) V1 E2
  have w1 := hS.2.frm hS.1.six.1.1.sh F1 (by decide +kernel)
  exact ⟨r1, r2, M1, M2, E1, E2, V1, S2, w1.frm V1.1.sh F2 (by decide +kernel)⟩
set_option maxRecDepth 200000 in
theorem pw_20 (hS : SVR M) : ∃ r1 r2 M1 M2, Ev none 999 102 0 [some (.ref 0), some (.int x1), some (.int x2)] [] M (some (.int r1)) M1 0 0 ∧ Ev none 999 228 0 [some (.ref 633), some (.int x1), some (.int x2), none, none] [] M1 (some (.int r2)) M2 0 0 ∧ INV M1 ∧ SVR M2 := by
  obtain ⟨r1, r2, M1, M2, E1, E2, V1, S2⟩ := pj_20 (x1 := x1) (x2 := x2) hS.1
  obtain ⟨_, F1, _⟩ := inv_d (c := kX10_longer) (k := 3) (ws := [.ref 0, .int x1, .int x2]) kX10_longer_ok (by decide +kernel) (by decide +kernel) (by decide) (Two.mk rfl (Two.mk ⟨x1, rfl, i32_any x1⟩ (Two.mk ⟨x2, rfl, i32_any x2⟩ trivial))) hS.1.six.1 E1
  obtain ⟨_, F2, _⟩ := inv_d (c := kX11_longer) (k := 5) (ws := [.ref 633, .int x1, .int x2]) kX11_longer_ok (by decide +kernel) (by decide +kernel) (by decide) (Two.mk rfl (Two.mk ⟨x1, rfl, i32_any x1⟩ (Two.mk ⟨x2, rfl, i32_any x2⟩ trivial))) V1 E2
  have w1 := hS.2.frm hS.1.six.1.1.sh F1 (by decide +kernel)
  exact ⟨r1, r2, M1, M2, E1, E2, V1, S2, w1.frm V1.1.sh F2 (by decide +kernel)⟩
set_option maxRecDepth 200000 in
theorem pw_21 (hS : SVR M) : ∃ r1 M1 M2, Ev none 999 103 0 [some (.ref 0), some (.int x1), some (.int x2), some (.int x3), some (.int x4), none, none, none, none, none, none] [] M (some (.int r1)) M1 0 0 ∧ Ev none 999 229 0 [some (.ref 633), some (.int x1), some (.int x2), some (.int x3), some (.int x4), none, none, none, none, none] [] M1 (some (.int r1)) M2 0 0 ∧ INV M1 ∧ SVR M2 := by
  obtain ⟨r1, M1, M2, E1, E2, V1, S2⟩ := pj_21 (x1 := x1) (x2 := x2) (x3 := x3) (x4 := x4) hS.1
  obtain ⟨_, F1, _⟩ := inv_d (c := kX10_turns) (k := 11) (ws := [.ref 0, .int x1, .int x2, .int x3, .int x4]) kX10_turns_ok (by decide +kernel) (by decide +kernel) (by decide) (Two.mk rfl (Two.mk ⟨x1, rfl, i32_any x1⟩ (Two.mk ⟨x2, rfl, i32_any x2⟩ (Two.mk ⟨x3, rfl, i32_any x3⟩ (Two.mk ⟨x4, rfl, i32_any x4⟩ trivial))))) hS.1.six.1 E1
  obtain ⟨_, F2, _⟩ := inv_d (c := kX11_turns) (k := 10) (ws := [.ref 633, .int x1, .int x2, .int x3, .int x4]) kX11_turns_ok (by decide +kernel) (by decide +kernel) (by decide) (Two.mk rfl (Two.mk ⟨x1, rfl, i32_any x1⟩ (Two.mk ⟨x2, rfl, i32_any x2⟩ (Two.mk ⟨x3, rfl, i32_any x3⟩ (Two.mk ⟨x4, rfl, i32_any x4⟩ trivial))))) V1 E2
  have w1 := hS.2.frm hS.1.six.1.1.sh F1 (by decide +kernel)
  exact ⟨r1, M1, M2, E1, E2, V1, S2, w1.frm V1.1.sh F2 (by decide +kernel)⟩
set_option maxRecDepth 200000 in
theorem pw_22 (hS : SVR M) : ∃ r1 M1 M2, Ev none 999 104 0 [some (.ref 0), some (.int x1), some (.int x2), some (.int x3), some (.int x4)] [] M (some (.int r1)) M1 0 0 ∧ Ev none 999 231 0 [some (.ref 633), some (.int x1), some (.int x2), some (.int x3), some (.int x4)] [] M1 (some (.int r1)) M2 0 0 ∧ INV M1 ∧ SVR M2 := by
  obtain ⟨r1, M1, M2, E1, E2, V1, S2⟩ := pj_22 (x1 := x1) (x2 := x2) (x3 := x3) (x4 := x4) hS.1
  obtain ⟨_, F1, _⟩ := inv_d (c := kX10_paved) (k := 5) (ws := [.ref 0, .int x1, .int x2, .int x3, .int x4]) kX10_paved_ok (by decide +kernel) (by decide +kernel) (by decide) (Two.mk rfl (Two.mk ⟨x1, rfl, i32_any x1⟩ (Two.mk ⟨x2, rfl, i32_any x2⟩ (Two.mk ⟨x3, rfl, i32_any x3⟩ (Two.mk ⟨x4, rfl, i32_any x4⟩ trivial))))) hS.1.six.1 E1
  obtain ⟨_, F2, _⟩ := inv_d (c := kX11_paved) (k := 5) (ws := [.ref 633, .int x1, .int x2, .int x3, .int x4]) kX11_paved_ok (by decide +kernel) (by decide +kernel) (by decide) (Two.mk rfl (Two.mk ⟨x1, rfl, i32_any x1⟩ (Two.mk ⟨x2, rfl, i32_any x2⟩ (Two.mk ⟨x3, rfl, i32_any x3⟩ (Two.mk ⟨x4, rfl, i32_any x4⟩ trivial))))) V1 E2
  have w1 := hS.2.frm hS.1.six.1.1.sh F1 (by decide +kernel)
  exact ⟨r1, M1, M2, E1, E2, V1, S2, w1.frm V1.1.sh F2 (by decide +kernel)⟩
set_option maxRecDepth 200000 in
theorem pw_23 (hS : SVR M) : ∃ r1 M1 M2, Ev none 999 105 0 [some (.ref 0), some (.int x1), some (.int x2), none, none, none, none] [] M (some (.int r1)) M1 0 0 ∧ Ev none 999 232 0 [some (.ref 633), some (.int x1), some (.int x2), none, none, none, none] [] M1 (some (.int r1)) M2 0 0 ∧ INV M1 ∧ SVR M2 := by
  obtain ⟨r1, M1, M2, E1, E2, V1, S2⟩ := pj_23 (x1 := x1) (x2 := x2) hS.1
  obtain ⟨_, F1, _⟩ := inv_d (c := kX10_wait) (k := 7) (ws := [.ref 0, .int x1, .int x2]) kX10_wait_ok (by decide +kernel) (by decide +kernel) (by decide) (Two.mk rfl (Two.mk ⟨x1, rfl, i32_any x1⟩ (Two.mk ⟨x2, rfl, i32_any x2⟩ trivial))) hS.1.six.1 E1
  obtain ⟨_, F2, _⟩ := inv_d (c := kX11_wait) (k := 7) (ws := [.ref 633, .int x1, .int x2]) kX11_wait_ok (by decide +kernel) (by decide +kernel) (by decide) (Two.mk rfl (Two.mk ⟨x1, rfl, i32_any x1⟩ (Two.mk ⟨x2, rfl, i32_any x2⟩ trivial))) V1 E2
  have w1 := hS.2.frm hS.1.six.1.1.sh F1 (by decide +kernel)
  exact ⟨r1, M1, M2, E1, E2, V1, S2, w1.frm V1.1.sh F2 (by decide +kernel)⟩
set_option maxRecDepth 200000 in
theorem pw_24 (hS : SVR M) : ∃ r1 M1 M2, Ev none 999 108 0 [some (.ref 0), some (.int x1), some (.int x2), none] [] M (some (.int r1)) M1 0 0 ∧ Ev none 999 235 0 [some (.ref 633), some (.int x1), some (.int x2), none, none, none] [] M1 (some (.int r1)) M2 0 0 ∧ INV M1 ∧ SVR M2 := by
  obtain ⟨r1, M1, M2, E1, E2, V1, S2⟩ := pj_24 (x1 := x1) (x2 := x2) hS.1
  obtain ⟨_, F1, _⟩ := inv_d (c := kX10_fences) (k := 4) (ws := [.ref 0, .int x1, .int x2]) kX10_fences_ok (by decide +kernel) (by decide +kernel) (by decide) (Two.mk rfl (Two.mk ⟨x1, rfl, i32_any x1⟩ (Two.mk ⟨x2, rfl, i32_any x2⟩ trivial))) hS.1.six.1 E1
  obtain ⟨_, F2, _⟩ := inv_d (c := kX11_fences) (k := 6) (ws := [.ref 633, .int x1, .int x2]) kX11_fences_ok (by decide +kernel) (by decide +kernel) (by decide) (Two.mk rfl (Two.mk ⟨x1, rfl, i32_any x1⟩ (Two.mk ⟨x2, rfl, i32_any x2⟩ trivial))) V1 E2
  have w1 := hS.2.frm hS.1.six.1.1.sh F1 (by decide +kernel)
  exact ⟨r1, M1, M2, E1, E2, V1, S2, w1.frm V1.1.sh F2 (by decide +kernel)⟩
set_option maxRecDepth 200000 in
theorem pw_25 (hS : SVR M) : ∃ r1 r2 M1 M2, Ev none 999 113 0 [some (.ref 0), some (.int x1)] [] M (some (.int r1)) M1 0 0 ∧ Ev none 999 236 0 [some (.ref 633), some (.int x1)] [] M1 (some (.int r2)) M2 0 0 ∧ INV M1 ∧ SVR M2 := by
  obtain ⟨r1, r2, M1, M2, E1, E2, V1, S2⟩ := pj_25 (x1 := x1) hS.1
  obtain ⟨_, F1, _⟩ := inv_d (c := kX10_fenceAt) (k := 2) (ws := [.ref 0, .int x1]) kX10_fenceAt_ok (by decide +kernel) (by decide +kernel) (by decide) (Two.mk rfl (Two.mk ⟨x1, rfl, i32_any x1⟩ trivial)) hS.1.six.1 E1
  obtain ⟨_, F2, _⟩ := inv_d (c := kX11_fenceAt) (k := 2) (ws := [.ref 633, .int x1]) kX11_fenceAt_ok (by decide +kernel) (by decide +kernel) (by decide) (Two.mk rfl (Two.mk ⟨x1, rfl, i32_any x1⟩ trivial)) V1 E2
  have w1 := hS.2.frm hS.1.six.1.1.sh F1 (by decide +kernel)
  exact ⟨r1, r2, M1, M2, E1, E2, V1, S2, w1.frm V1.1.sh F2 (by decide +kernel)⟩
set_option maxRecDepth 200000 in
theorem pw_26 (hS : SVR M) : ∃ r1 M1 M2, Ev none 999 114 0 [some (.ref 0), some (.int x1), some (.int x2), some (.int x3), some (.int x4), none] [] M (some (.int r1)) M1 0 0 ∧ Ev none 999 237 0 [some (.ref 633), some (.int x1), some (.int x2), some (.int x3), some (.int x4), none, none] [] M1 (some (.int r1)) M2 0 0 ∧ INV M1 ∧ SVR M2 := by
  obtain ⟨r1, M1, M2, E1, E2, V1, S2⟩ := pj_26 (x1 := x1) (x2 := x2) (x3 := x3) (x4 := x4) hS.1
  obtain ⟨_, F1, _⟩ := inv_d (c := kX10_lasts) (k := 6) (ws := [.ref 0, .int x1, .int x2, .int x3, .int x4]) kX10_lasts_ok (by decide +kernel) (by decide +kernel) (by decide) (Two.mk rfl (Two.mk ⟨x1, rfl, i32_any x1⟩ (Two.mk ⟨x2, rfl, i32_any x2⟩ (Two.mk ⟨x3, rfl, i32_any x3⟩ (Two.mk ⟨x4, rfl, i32_any x4⟩ trivial))))) hS.1.six.1 E1
  obtain ⟨_, F2, _⟩ := inv_d (c := kX11_lasts) (k := 7) (ws := [.ref 633, .int x1, .int x2, .int x3, .int x4]) kX11_lasts_ok (by decide +kernel) (by decide +kernel) (by decide) (Two.mk rfl (Two.mk ⟨x1, rfl, i32_any x1⟩ (Two.mk ⟨x2, rfl, i32_any x2⟩ (Two.mk ⟨x3, rfl, i32_any x3⟩ (Two.mk ⟨x4, rfl, i32_any x4⟩ trivial))))) V1 E2
  have w1 := hS.2.frm hS.1.six.1.1.sh F1 (by decide +kernel)
  exact ⟨r1, M1, M2, E1, E2, V1, S2, w1.frm V1.1.sh F2 (by decide +kernel)⟩
set_option maxRecDepth 200000 in
theorem pw_27 (hS : SVR M) : ∃ r1 M1 M2, Ev none 999 115 0 [some (.ref 0), some (.int x1), some (.int x2), some (.int x3), none] [] M (some (.int r1)) M1 0 0 ∧ Ev none 999 240 0 [some (.ref 633), some (.int x1), some (.int x2), some (.int x3), none, none] [] M1 (some (.int r1)) M2 0 0 ∧ INV M1 ∧ SVR M2 := by
  obtain ⟨r1, M1, M2, E1, E2, V1, S2⟩ := pj_27 (x1 := x1) (x2 := x2) (x3 := x3) hS.1
  obtain ⟨_, F1, _⟩ := inv_d (c := kX10_way) (k := 5) (ws := [.ref 0, .int x1, .int x2, .int x3]) kX10_way_ok (by decide +kernel) (by decide +kernel) (by decide) (Two.mk rfl (Two.mk ⟨x1, rfl, i32_any x1⟩ (Two.mk ⟨x2, rfl, i32_any x2⟩ (Two.mk ⟨x3, rfl, i32_any x3⟩ trivial)))) hS.1.six.1 E1
  obtain ⟨_, F2, _⟩ := inv_d (c := kX11_way) (k := 6) (ws := [.ref 633, .int x1, .int x2, .int x3]) kX11_way_ok (by decide +kernel) (by decide +kernel) (by decide) (Two.mk rfl (Two.mk ⟨x1, rfl, i32_any x1⟩ (Two.mk ⟨x2, rfl, i32_any x2⟩ (Two.mk ⟨x3, rfl, i32_any x3⟩ trivial)))) V1 E2
  have w1 := hS.2.frm hS.1.six.1.1.sh F1 (by decide +kernel)
  exact ⟨r1, M1, M2, E1, E2, V1, S2, w1.frm V1.1.sh F2 (by decide +kernel)⟩
set_option maxRecDepth 200000 in
theorem pw_28 (hS : SVR M) : ∃ r1 r2 M1 M2, Ev none 999 116 0 [some (.ref 0), some (.int x1)] [] M (some (.int r1)) M1 0 0 ∧ Ev none 999 241 0 [some (.ref 633), some (.int x1)] [] M1 (some (.int r2)) M2 0 0 ∧ INV M1 ∧ SVR M2 := by
  obtain ⟨r1, r2, M1, M2, E1, E2, V1, S2⟩ := pj_28 (x1 := x1) hS.1
  obtain ⟨_, F1, _⟩ := inv_d (c := kX10_wayAt) (k := 2) (ws := [.ref 0, .int x1]) kX10_wayAt_ok (by decide +kernel) (by decide +kernel) (by decide) (Two.mk rfl (Two.mk ⟨x1, rfl, i32_any x1⟩ trivial)) hS.1.six.1 E1
  obtain ⟨_, F2, _⟩ := inv_d (c := kX11_wayAt) (k := 2) (ws := [.ref 633, .int x1]) kX11_wayAt_ok (by decide +kernel) (by decide +kernel) (by decide) (Two.mk rfl (Two.mk ⟨x1, rfl, i32_any x1⟩ trivial)) V1 E2
  have w1 := hS.2.frm hS.1.six.1.1.sh F1 (by decide +kernel)
  exact ⟨r1, r2, M1, M2, E1, E2, V1, S2, w1.frm V1.1.sh F2 (by decide +kernel)⟩
set_option maxRecDepth 200000 in
theorem pw_29 (hS : SVR M) : ∃ r1 M1 M2, Ev none 999 117 0 [some (.ref 0), none] [] M (some (.int r1)) M1 0 0 ∧ Ev none 999 242 0 [some (.ref 633), none, none, none, none, none, none] [] M1 (some (.int r1)) M2 0 0 ∧ INV M1 ∧ SVR M2 := by
  obtain ⟨r1, r2, M1, M2, E1, E2, V1, S2⟩ := pj_29 hS.1
  obtain ⟨_, F1, _⟩ := inv_d (c := kX10_read) (k := 2) (ws := [.ref 0]) kX10_read_ok (by decide +kernel) (by decide +kernel) (by decide) (Two.mk rfl trivial) hS.1.six.1 E1
  obtain ⟨_, F2, _⟩ := inv_d (c := kX11_read_) (k := 7) (ws := [.ref 633]) kX11_read__ok (by decide +kernel) (by decide +kernel) (by decide) (Two.mk rfl trivial) V1 E2
  obtain ⟨z, y, l, lb, lt, T, P, PI, hB, hN, hC, hD, hR, hI⟩ := hS.1
  have Q1 : SQ M1 := ⟨V1.1.sh, hB.2.1.frm hB.1.1.sh F1 (by decide +kernel)⟩
  have R1 : RST T P M1 := hR.frm Q1 F1 (by decide +kernel)
  have W1 : LR z M1 := hB.2.2.2.1.frm F1 (md_no (by decide +kernel))
  have B1 : BR lt M1 := hB.2.2.2.2.2.2.2.1.frm F1 (md_no (by decide +kernel))
  have ez := hB.2.2.1.zi
  have ew := W1.zi
  have hbl := hB.2.2.2.2.2.2.1.bl hN
  have hbr := B1.bl
  have C := cread_ok (o := bL lt) (n := (z / 3).toInt.toNat) hC hB.1 (by decide) (fun j hj => hbl j (by rw [ez] at hj; omega)) hS.2.1 (by rw [ez]) E1
  have R := rread_ok (o := bL lt) (n := (z / 3).toInt.toNat) R1 hC.ok (unD_of V1 R1) (fun j _ => congrFun hbr j) (by rw [ew]) E2
  rw [ez] at C
  rw [ew] at R
  have kc : KEEP M1 M2 := KEEP.frm V1.1.sh F2 (by decide +kernel)
  have kr : KEPR M M1 := KEPR.frm hB.1.1.sh F1 (by decide +kernel)
  have o1 := rdx_230 hB.1.1.sh F1 (by decide +kernel)
  have o2 := rdx_230 V1.1.sh F2 (by decide +kernel)
  have oo : ∀ k, oN M2 230 k = oN M 230 k := fun k => (o2 k).trans (o1 k)
  rcases C with ⟨c1, c2, c3⟩ | ⟨c1, f, c2, c3, c4⟩ <;> rcases R with ⟨d1, d2, d3⟩ | ⟨d1, g, d2, d3, d4⟩
  · cases c2
    cases d2
    exact ⟨_, M1, M2, E1, E2, V1, S2, hS.2.tr oo (c3.trans kc) (kr.trans d3)⟩
  · exact absurd d1 c1
  · exact absurd c1 d1
  · have efg : f = g := Int32.toInt_inj.mp (by rw [c3, d3])
    subst efg
    cases c2
    cases d2
    refine ⟨_, M1, M2, E1, E2, V1, S2, ?_⟩
    rcases c4 with ⟨c5, c6⟩ | ⟨c5, c6, c7⟩ <;> rcases d4 with ⟨d5, d6⟩ | ⟨d5, d6, d7⟩
    · exact hS.2.tr oo (c6.trans kc) (kr.trans d6)
    · exact absurd c5 d5
    · exact absurd d5 c5
    · have n5 : (z / 3).toInt.toNat ≤ 5 := by
        have := c1.1.2
        have t5 : (5 : Int32).toInt = 5 := rfl
        omega
      refine ⟨fun k hk => (oo k).trans (hS.2.1 k hk), by rw [kc.1, c6, d6], fun j hj => ?_⟩
      rw [kc.1, c6, nI_toInt (by omega)] at hj
      have hjn : j < (z / 3).toInt.toNat := by omega
      obtain ⟨a1, a2⟩ := c7 j hjn
      obtain ⟨b1, b2⟩ := d7 j hjn
      rw [(kc.2 j).1, (kc.2 j).2]
      exact ⟨Int32.toInt_inj.mp (a1.uniq b1), Int32.toInt_inj.mp (a2.uniq b2)⟩
set_option maxRecDepth 200000 in
theorem pw_30 (hS : SVR M) : ∃ r1 M1 M2, Ev none 999 119 0 [some (.ref 0), some (.int x1), some (.int x2)] [] M (some (.int r1)) M1 0 0 ∧ Ev none 999 244 0 [some (.ref 633), some (.int x1), some (.int x2)] [] M1 (some (.int r1)) M2 0 0 ∧ INV M1 ∧ SVR M2 := by
  obtain ⟨r1, r2, M1, M2, E1, E2, V1, S2⟩ := pj_30 (x1 := x1) (x2 := x2) hS.1
  obtain ⟨_, F1, _⟩ := inv_d (c := kX10_reads) (k := 3) (ws := [.ref 0, .int x1, .int x2]) kX10_reads_ok (by decide +kernel) (by decide +kernel) (by decide) (Two.mk rfl (Two.mk ⟨x1, rfl, i32_any x1⟩ (Two.mk ⟨x2, rfl, i32_any x2⟩ trivial))) hS.1.six.1 E1
  obtain ⟨_, F2, _⟩ := inv_d (c := kX11_reads) (k := 3) (ws := [.ref 633, .int x1, .int x2]) kX11_reads_ok (by decide +kernel) (by decide +kernel) (by decide) (Two.mk rfl (Two.mk ⟨x1, rfl, i32_any x1⟩ (Two.mk ⟨x2, rfl, i32_any x2⟩ trivial))) V1 E2
  have er := rds_al ⟨hS.1.six.1.1.sh, hS.1.six.2.1⟩ hS.1.six.1 hS.2 E1 E2
  cases er
  have w1 := hS.2.frm hS.1.six.1.1.sh F1 (by decide +kernel)
  exact ⟨r1, M1, M2, E1, E2, V1, S2, w1.frm V1.1.sh F2 (by decide +kernel)⟩
set_option maxRecDepth 200000 in
theorem pw_31 (hS : SVR M) : ∃ r1 r2 M1 M2, Ev none 999 120 0 [some (.ref 0), some (.int x1), some (.int x2), none] [] M (some (.int r1)) M1 0 0 ∧ Ev none 999 245 0 [some (.ref 633), some (.int x1), some (.int x2), none, none, none, none] [] M1 (some (.int r2)) M2 0 0 ∧ INV M1 ∧ SVR M2 := by
  obtain ⟨r1, r2, M1, M2, E1, E2, V1, S2⟩ := pj_31 (x1 := x1) (x2 := x2) hS.1
  obtain ⟨_, F1, _⟩ := inv_d (c := kX10_fits) (k := 4) (ws := [.ref 0, .int x1, .int x2]) kX10_fits_ok (by decide +kernel) (by decide +kernel) (by decide) (Two.mk rfl (Two.mk ⟨x1, rfl, i32_any x1⟩ (Two.mk ⟨x2, rfl, i32_any x2⟩ trivial))) hS.1.six.1 E1
  obtain ⟨_, F2, _⟩ := inv_d (c := kX11_fits) (k := 7) (ws := [.ref 633, .int x1, .int x2]) kX11_fits_ok (by decide +kernel) (by decide +kernel) (by decide) (Two.mk rfl (Two.mk ⟨x1, rfl, i32_any x1⟩ (Two.mk ⟨x2, rfl, i32_any x2⟩ trivial))) V1 E2
  have w1 := hS.2.frm hS.1.six.1.1.sh F1 (by decide +kernel)
  exact ⟨r1, r2, M1, M2, E1, E2, V1, S2, w1.frm V1.1.sh F2 (by decide +kernel)⟩
set_option maxRecDepth 200000 in
theorem pw_32 (hS : SVR M) : ∃ r1 M1 M2, Ev none 999 123 0 [some (.ref 0), some (.int x1)] [] M (some (.int r1)) M1 0 0 ∧ Ev none 999 246 0 [some (.ref 633), some (.int x1), none] [] M1 (some (.int r1)) M2 0 0 ∧ INV M1 ∧ SVR M2 := by
  obtain ⟨r1, M1, M2, E1, E2, V1, S2⟩ := pj_32 (x1 := x1) hS.1
  obtain ⟨_, F1, _⟩ := inv_d (c := kX10_image) (k := 2) (ws := [.ref 0, .int x1]) kX10_image_ok (by decide +kernel) (by decide +kernel) (by decide) (Two.mk rfl (Two.mk ⟨x1, rfl, i32_any x1⟩ trivial)) hS.1.six.1 E1
  obtain ⟨_, F2, _⟩ := inv_d (c := kX11_image) (k := 3) (ws := [.ref 633, .int x1]) kX11_image_ok (by decide +kernel) (by decide +kernel) (by decide) (Two.mk rfl (Two.mk ⟨x1, rfl, i32_any x1⟩ trivial)) V1 E2
  have w1 := hS.2.frm hS.1.six.1.1.sh F1 (by decide +kernel)
  exact ⟨r1, M1, M2, E1, E2, V1, S2, w1.frm V1.1.sh F2 (by decide +kernel)⟩
set_option maxRecDepth 200000 in
theorem pw_33 (hS : SVR M) : ∃ r1 M1 M2, Ev none 999 124 0 [some (.ref 0), some (.int x1)] [] M (some (.int r1)) M1 0 0 ∧ Ev none 999 247 0 [some (.ref 633), some (.int x1), none] [] M1 (some (.int r1)) M2 0 0 ∧ INV M1 ∧ SVR M2 := by
  obtain ⟨r1, M1, M2, E1, E2, V1, S2⟩ := pj_33 (x1 := x1) hS.1
  obtain ⟨_, F1, _⟩ := inv_d (c := kX10_restore) (k := 2) (ws := [.ref 0, .int x1]) kX10_restore_ok (by decide +kernel) (by decide +kernel) (by decide) (Two.mk rfl (Two.mk ⟨x1, rfl, i32_any x1⟩ trivial)) hS.1.six.1 E1
  obtain ⟨_, F2, _⟩ := inv_d (c := kX11_restore) (k := 3) (ws := [.ref 633, .int x1]) kX11_restore_ok (by decide +kernel) (by decide +kernel) (by decide) (Two.mk rfl (Two.mk ⟨x1, rfl, i32_any x1⟩ trivial)) V1 E2
  have w1 := hS.2.frm hS.1.six.1.1.sh F1 (by decide +kernel)
  exact ⟨r1, M1, M2, E1, E2, V1, S2, w1.frm V1.1.sh F2 (by decide +kernel)⟩
set_option maxRecDepth 200000 in
theorem pw_34 (hS : SVR M) : ∃ r1 M1 M2, Ev none 999 125 0 [some (.ref 0), some (.int x1)] [] M (some (.int r1)) M1 0 0 ∧ Ev none 999 248 0 [some (.ref 633), some (.int x1), none, none] [] M1 (some (.int r1)) M2 0 0 ∧ INV M1 ∧ SVR M2 := by
  obtain ⟨r1, M1, M2, E1, E2, V1, S2⟩ := pj_34 (x1 := x1) hS.1
  obtain ⟨_, F1, _⟩ := inv_d (c := kX10_count) (k := 2) (ws := [.ref 0, .int x1]) kX10_count_ok (by decide +kernel) (by decide +kernel) (by decide) (Two.mk rfl (Two.mk ⟨x1, rfl, i32_any x1⟩ trivial)) hS.1.six.1 E1
  obtain ⟨_, F2, _⟩ := inv_d (c := kX11_count) (k := 4) (ws := [.ref 633, .int x1]) kX11_count_ok (by decide +kernel) (by decide +kernel) (by decide) (Two.mk rfl (Two.mk ⟨x1, rfl, i32_any x1⟩ trivial)) V1 E2
  have w1 := hS.2.frm hS.1.six.1.1.sh F1 (by decide +kernel)
  exact ⟨r1, M1, M2, E1, E2, V1, S2, w1.frm V1.1.sh F2 (by decide +kernel)⟩
set_option maxRecDepth 200000 in
theorem pw_14 (hS : SVR M) : ∃ r M2, Ev none 999 214 0 [some (.ref 633), some (.int x1), some (.int x2)] [] M (some (.int r)) M2 0 0 ∧ SVR M2 := by
  obtain ⟨r, M2, E2, S2⟩ := pj_14 (x1 := x1) (x2 := x2) hS.1
  obtain ⟨_, F2, _⟩ := inv_d (c := kX11_cell) (k := 3) (ws := [.ref 633, .int x1, .int x2]) kX11_cell_ok (by decide +kernel) (by decide +kernel) (by decide) (Two.mk rfl (Two.mk ⟨x1, rfl, i32_any x1⟩ (Two.mk ⟨x2, rfl, i32_any x2⟩ trivial))) hS.1.six.1 E2
  exact ⟨r, M2, E2, S2, hS.2.frm hS.1.six.1.1.sh F2 (by decide +kernel)⟩
end RDKEEP
