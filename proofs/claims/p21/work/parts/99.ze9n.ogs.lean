/-! THE GOOD GROUND, beside the whole state (made by gpgs.py) -/
noncomputable def trR (f : Nat → Int32) : PK := fun i => if i < 2314 then f i else 0
def OG (M : Mem) : Prop := okG (trR (rN M 635)) ∧ ∀ k, k < 3 → okG (trR (fun i => rN M 636 (2314 * k + i)))
def SVG (M : Mem) : Prop := SV7 M ∧ OG M
noncomputable def ogB (md : Md) : Bool := mdC md [1063] && mdC md [1064]
set_option maxRecDepth 200000 in
theorem og_g : gpB 635 [63] = true ∧ gpB 636 [64] = true := by constructor <;> decide +kernel
section OGKEEP
variable {x1 x2 x3 x4 x5 k : Int32} {e : Nat} {M M1 M2 M' : Mem} {md : Md} {v v1 v2 : Option Value} {T : TS} {P X : PK}
theorem og_rows (hS : SH M) (hF : Frm sT md M M') (hB : ogB md = true) : (∀ j, rN M' 635 j = rN M 635 j) ∧ ∀ j, rN M' 636 j = rN M 636 j := by
  obtain ⟨b1, b2⟩ := and_t hB
  have hZ := frm_fz hS hF
  exact ⟨fun j => hZ.rn (gpB_W og_g.1 b1), fun j => hZ.rn (gpB_W og_g.2 b2)⟩
theorem og_row6 (hS : SH M) (hF : Frm sT md M M') (hB : mdC md [1064] = true) : ∀ j, rN M' 636 j = rN M 636 j := fun j => (frm_fz hS hF).rn (gpB_W og_g.2 hB)
theorem OG.tr (h : OG M) (e5 : ∀ j, rN M' 635 j = rN M 635 j) (e6 : ∀ j, rN M' 636 j = rN M 636 j) : OG M' := by
  have a : rN M' 635 = rN M 635 := funext e5
  have b : rN M' 636 = rN M 636 := funext e6
  unfold OG
  rw [a, b]
  exact h
theorem OG.frm (h : OG M) (hS : SH M) (hF : Frm sT md M M') (hB : ogB md = true) : OG M' := h.tr (og_rows hS hF hB).1 (og_rows hS hF hB).2
theorem tr_lt {f : Nat → Int32} {i : Nat} (hi : i < 2314) : trR f i = f i := if_pos hi
theorem OG.pp (h : OG M) (hR : RST T P M) (hD : okD P) : okG P := h.1.eq (hD.sb (fun j hj => (tr_lt (by omega)).trans (hR.2.1 j (by omega)))) (fun i hi => ((tr_lt hi).trans (hR.2.1 i hi)).symm)
theorem og_mk5 (S2 : SV7 M2) (hR : RST T X M2) (hX : okG X) : okG (trR (rN M2 635)) := by
  obtain ⟨_, _, _, _, _, T2, P2, _, _, _, hC, _, hR2, _⟩ := S2
  exact hX.eq (hC.ok.1.sb (fun j hj => (hR.2.1 j (by omega)).symm.trans (hR2.2.1 j (by omega)))) (fun i hi => (tr_lt hi).trans (hR.2.1 i hi))
theorem OG.mk (S2 : SV7 M2) (hR : RST T X M2) (hX : okG X) (h1 : OG M1) (e6 : ∀ j, rN M2 636 j = rN M1 636 j) : OG M2 := by
  have b : rN M2 636 = rN M1 636 := funext e6
  refine ⟨og_mk5 S2 hR hX, ?_⟩
  rw [b]
  exact h1.2
theorem okG_0 : okG (fun _ => 0) := ⟨fun c hc _ => rfl, fun d hd => absurd hd (Nat.not_lt_zero d)⟩
theorem OG.far (h : OG M) (hF : FZ fF fW fW M M') : OG M' := h.tr (fun j => hF.rn (by unfold fW; omega)) (fun j => hF.rn (by unfold fW; omega))
theorem SVG.app (h : SVG M) (e : AE) : SVG (M ++ [e]) := by
  refine ⟨h.1.app e, h.2.far (FZ.eq (fun a ha => ?_) (fun _ _ q => q) (fun _ q => q) (fun _ q => q))⟩
  obtain ⟨g, hg⟩ : ∃ g, gNth sT a = some g := by
    rw [nth_eq]
    exact ⟨_, List.getElem?_eq_getElem (by rw [st_len]; omega)⟩
  have hq := List.all_eq_true.mp st_gr a (List.mem_range.mpr (by omega))
  rw [hg] at hq
  have hq : (gNth sG g).isSome = true := hq
  obtain ⟨ct, hct⟩ := Option.isSome_iff_exists.mp hq
  obtain ⟨x, h1, _⟩ := h.1.six.1.1.at hg hct
  rw [nth_app h1, h1]
theorem SVG.out (h : SVG M) : ∃ l : List Int64, gNth M 663 = some (.inl (2, .inr (.inl l))) ∧ l.length = 1 ∧ ∀ z : Int64, SVG (gPut M 663 (.inl (2, .inr (.inl (gPut l 0 z))))) := by
  obtain ⟨l, l1, l2, l3⟩ := h.1.out
  exact ⟨l, l1, l2, fun z9 => ⟨l3 z9, h.2.far (FZ.eq (fun a ha => by rw [nth_put, if_neg (fun q => by omega)]) (fun _ _ q => q) (fun _ q => q) (fun _ q => q))⟩⟩
theorem SVG.six (h : SVG M) : SV6 M := h.1.six
set_option maxRecDepth 200000 in
theorem og_0 : zrB 635 1 2 = true ∧ zrB 636 1 0 = true := by constructor <;> decide +kernel
theorem SVG0 : SVG mem0 := by
  have z5 : ∀ j, 2 ≤ j → rN mem0 635 j = 0 := fun j hj => zr_rN og_0.1 hj
  have z6 : ∀ j, rN mem0 636 j = 0 := fun j => zr_rN og_0.2 (Nat.zero_le j)
  refine ⟨SV70, ⟨fun c _ _ => ?_, fun d hd => ?_⟩, fun k _ => ?_⟩
  · show trR (rN mem0 635) _ = 0
    unfold trR cX
    split
    · exact z5 _ (by omega)
    · rfl
  · have e : trR (rN mem0 635) 2 = 0 := (tr_lt (by decide)).trans (z5 2 (by decide))
    rw [e] at hd
    exact absurd hd (Nat.not_lt_zero d)
  · have e : trR (fun i => rN mem0 636 (2314 * k + i)) = fun _ => 0 := funext (fun i => by
      unfold trR
      split
      · exact z6 _
      · rfl)
    rw [e]
    exact okG_0
set_option maxRecDepth 200000 in
theorem pg_0 (hS : SVG M) : ∃ r1 M1 M2, Ev none 999 80 0 [some (.ref 0), some (.int x1), some (.int x2), some (.int x3), some (.int x4), some (.int x5)] [] M (some (.int r1)) M1 0 0 ∧ Ev none 999 136 0 [some (.ref 633), some (.int x1), some (.int x2), some (.int x3), some (.int x4), some (.int x5)] [] M1 (some (.int r1)) M2 0 0 ∧ INV M1 ∧ SVG M2 := by
  obtain ⟨r1, M1, M2, E1, E2, V1, S2⟩ := pj_0 (x1 := x1) (x2 := x2) (x3 := x3) (x4 := x4) (x5 := x5) hS.1
  obtain ⟨_, F1, _⟩ := inv_d (c := kX10_feed) (k := 6) (ws := [.ref 0, .int x1, .int x2, .int x3, .int x4, .int x5]) kX10_feed_ok (by decide +kernel) (by decide +kernel) (by decide) (Two.mk rfl (Two.mk ⟨x1, rfl, i32_any x1⟩ (Two.mk ⟨x2, rfl, i32_any x2⟩ (Two.mk ⟨x3, rfl, i32_any x3⟩ (Two.mk ⟨x4, rfl, i32_any x4⟩ (Two.mk ⟨x5, rfl, i32_any x5⟩ trivial)))))) hS.1.six.1 E1
  obtain ⟨_, F2, _⟩ := inv_d (c := kX11_feed) (k := 6) (ws := [.ref 633, .int x1, .int x2, .int x3, .int x4, .int x5]) kX11_feed_ok (by decide +kernel) (by decide +kernel) (by decide) (Two.mk rfl (Two.mk ⟨x1, rfl, i32_any x1⟩ (Two.mk ⟨x2, rfl, i32_any x2⟩ (Two.mk ⟨x3, rfl, i32_any x3⟩ (Two.mk ⟨x4, rfl, i32_any x4⟩ (Two.mk ⟨x5, rfl, i32_any x5⟩ trivial)))))) V1 E2
  have G1 := hS.2.frm hS.1.six.1.1.sh F1 (by decide +kernel)
  exact ⟨r1, M1, M2, E1, E2, V1, S2, G1.frm V1.1.sh F2 (by decide +kernel)⟩
set_option maxRecDepth 200000 in
theorem pg_1 (hS : SVG M) : ∃ r1 M1 M2, Ev none 999 81 0 [some (.ref 0), some (.int x1)] [] M (some (.int r1)) M1 0 0 ∧ Ev none 999 138 0 [some (.ref 633), some (.int x1)] [] M1 (some (.int r1)) M2 0 0 ∧ INV M1 ∧ SVG M2 := by
  obtain ⟨r1, M1, M2, E1, E2, V1, S2⟩ := pj_1 (x1 := x1) hS.1
  obtain ⟨_, F1, _⟩ := inv_d (c := kX10_end) (k := 2) (ws := [.ref 0, .int x1]) kX10_end_ok (by decide +kernel) (by decide +kernel) (by decide) (Two.mk rfl (Two.mk ⟨x1, rfl, i32_any x1⟩ trivial)) hS.1.six.1 E1
  obtain ⟨_, F2, _⟩ := inv_d (c := kX11_end) (k := 2) (ws := [.ref 633, .int x1]) kX11_end_ok (by decide +kernel) (by decide +kernel) (by decide) (Two.mk rfl (Two.mk ⟨x1, rfl, i32_any x1⟩ trivial)) V1 E2
  have G1 := hS.2.frm hS.1.six.1.1.sh F1 (by decide +kernel)
  exact ⟨r1, M1, M2, E1, E2, V1, S2, G1.frm V1.1.sh F2 (by decide +kernel)⟩
set_option maxRecDepth 200000 in
theorem pg_2 (hS : SVG M) : ∃ r1 M1 M2, Ev none 999 82 0 [some (.ref 0), some (.int x1), some (.int x2), none] [] M (some (.int r1)) M1 0 0 ∧ Ev none 999 155 0 [some (.ref 633), some (.int x1), some (.int x2), none] [] M1 (some (.int r1)) M2 0 0 ∧ INV M1 ∧ SVG M2 := by
  obtain ⟨r1, M1, M2, E1, E2, V1, S2⟩ := pj_2 (x1 := x1) (x2 := x2) hS.1
  obtain ⟨_, F1, _⟩ := inv_d (c := kX10_park) (k := 4) (ws := [.ref 0, .int x1, .int x2]) kX10_park_ok (by decide +kernel) (by decide +kernel) (by decide) (Two.mk rfl (Two.mk ⟨x1, rfl, i32_any x1⟩ (Two.mk ⟨x2, rfl, i32_any x2⟩ trivial))) hS.1.six.1 E1
  obtain ⟨_, F2, _⟩ := inv_d (c := kX11_park) (k := 4) (ws := [.ref 633, .int x1, .int x2]) kX11_park_ok (by decide +kernel) (by decide +kernel) (by decide) (Two.mk rfl (Two.mk ⟨x1, rfl, i32_any x1⟩ (Two.mk ⟨x2, rfl, i32_any x2⟩ trivial))) V1 E2
  have G1 := hS.2.frm hS.1.six.1.1.sh F1 (by decide +kernel)
  obtain ⟨z, y, l, lb, lt, T, P, PI, hB, hN, hC, hD, hR, hI⟩ := hS.1
  have R1 : RST T P M1 := hR.frm ⟨V1.1.sh, hB.2.1.frm hB.1.1.sh F1 (by decide +kernel)⟩ F1 (by decide +kernel)
  have hP : okG P := G1.pp R1 hC.ok.1
  have i2 := og_row6 V1.1.sh F2 (by decide +kernel)
  rcases rpark_ok (n := (zI M1 633 2).toInt.toNat) (o := fun k => rN M1 634 k &&& 255) R1 (tpm V1) (fun _ _ => rfl) E2 with ⟨_, _, R2⟩ | ⟨_, _, R2⟩
  · exact ⟨r1, M1, M2, E1, E2, V1, S2, OG.mk S2 R2 (hP) G1 i2⟩
  · exact ⟨r1, M1, M2, E1, E2, V1, S2, OG.mk S2 R2 (okG.par) G1 i2⟩
set_option maxRecDepth 200000 in
theorem pg_3 (hS : SVG M) : ∃ r1 M1 M2, Ev none 999 84 0 [some (.ref 0), some (.int x1)] [] M (some (.int r1)) M1 0 0 ∧ Ev none 999 156 0 [some (.ref 633), some (.int x1)] [] M1 (some (.int r1)) M2 0 0 ∧ INV M1 ∧ SVG M2 := by
  obtain ⟨r1, M1, M2, E1, E2, V1, S2⟩ := pj_3 (x1 := x1) hS.1
  obtain ⟨_, F1, _⟩ := inv_d (c := kX10_door) (k := 2) (ws := [.ref 0, .int x1]) kX10_door_ok (by decide +kernel) (by decide +kernel) (by decide) (Two.mk rfl (Two.mk ⟨x1, rfl, i32_any x1⟩ trivial)) hS.1.six.1 E1
  obtain ⟨_, F2, _⟩ := inv_d (c := kX11_door) (k := 2) (ws := [.ref 633, .int x1]) kX11_door_ok (by decide +kernel) (by decide +kernel) (by decide) (Two.mk rfl (Two.mk ⟨x1, rfl, i32_any x1⟩ trivial)) V1 E2
  have G1 := hS.2.frm hS.1.six.1.1.sh F1 (by decide +kernel)
  obtain ⟨z, y, l, lb, lt, T, P, PI, hB, hN, hC, hD, hR, hI⟩ := hS.1
  have R1 : RST T P M1 := hR.frm ⟨V1.1.sh, hB.2.1.frm hB.1.1.sh F1 (by decide +kernel)⟩ F1 (by decide +kernel)
  have hP : okG P := G1.pp R1 hC.ok.1
  have i2 := og_row6 V1.1.sh F2 (by decide +kernel)
  rcases rdoor_ok R1 hC.ok.1 E2 with ⟨_, _, R2⟩ | ⟨a, _, R2⟩
  · exact ⟨r1, M1, M2, E1, E2, V1, S2, OG.mk S2 R2 (hP) G1 i2⟩
  · exact ⟨r1, M1, M2, E1, E2, V1, S2, OG.mk S2 R2 (hP.dor hC.ok.1 a) G1 i2⟩
set_option maxRecDepth 200000 in
theorem pg_4 (hS : SVG M) : ∃ r1 M1 M2, Ev none 999 85 0 [some (.ref 0), none, none] [] M (some (.int r1)) M1 0 0 ∧ Ev none 999 183 0 [some (.ref 633), none] [] M1 (some (.int r1)) M2 0 0 ∧ INV M1 ∧ SVG M2 := by
  obtain ⟨r1, M1, M2, E1, E2, V1, S2⟩ := pj_4 hS.1
  obtain ⟨_, F1, _⟩ := inv_d (c := kX10_law) (k := 3) (ws := [.ref 0]) kX10_law_ok (by decide +kernel) (by decide +kernel) (by decide) (Two.mk rfl trivial) hS.1.six.1 E1
  obtain ⟨_, F2, _⟩ := inv_d (c := kX11_law) (k := 2) (ws := [.ref 633]) kX11_law_ok (by decide +kernel) (by decide +kernel) (by decide) (Two.mk rfl trivial) V1 E2
  have G1 := hS.2.frm hS.1.six.1.1.sh F1 (by decide +kernel)
  exact ⟨r1, M1, M2, E1, E2, V1, S2, G1.frm V1.1.sh F2 (by decide +kernel)⟩
set_option maxRecDepth 200000 in
theorem pg_5 (hS : SVG M) : ∃ r1 M1 M2, Ev none 999 86 0 [some (.ref 0), some (.int x1), none, none] [] M (some (.int r1)) M1 0 0 ∧ Ev none 999 184 0 [some (.ref 633), some (.int x1)] [] M1 (some (.int r1)) M2 0 0 ∧ INV M1 ∧ SVG M2 := by
  obtain ⟨r1, M1, M2, E1, E2, V1, S2⟩ := pj_5 (x1 := x1) hS.1
  obtain ⟨_, F1, _⟩ := inv_d (c := kX10_habit) (k := 4) (ws := [.ref 0, .int x1]) kX10_habit_ok (by decide +kernel) (by decide +kernel) (by decide) (Two.mk rfl (Two.mk ⟨x1, rfl, i32_any x1⟩ trivial)) hS.1.six.1 E1
  obtain ⟨_, F2, _⟩ := inv_d (c := kX11_habit) (k := 2) (ws := [.ref 633, .int x1]) kX11_habit_ok (by decide +kernel) (by decide +kernel) (by decide) (Two.mk rfl (Two.mk ⟨x1, rfl, i32_any x1⟩ trivial)) V1 E2
  have G1 := hS.2.frm hS.1.six.1.1.sh F1 (by decide +kernel)
  exact ⟨r1, M1, M2, E1, E2, V1, S2, G1.frm V1.1.sh F2 (by decide +kernel)⟩
set_option maxRecDepth 200000 in
theorem pg_6 (hS : SVG M) : ∃ r1 M1 M2, Ev none 999 88 0 [some (.ref 0)] [] M (some (.int r1)) M1 0 0 ∧ Ev none 999 185 0 [some (.ref 633)] [] M1 (some (.int r1)) M2 0 0 ∧ INV M1 ∧ SVG M2 := by
  obtain ⟨r1, M1, M2, E1, E2, V1, S2⟩ := pj_6 hS.1
  obtain ⟨_, F1, _⟩ := inv_d (c := kX10_fault) (k := 1) (ws := [.ref 0]) kX10_fault_ok (by decide +kernel) (by decide +kernel) (by decide) (Two.mk rfl trivial) hS.1.six.1 E1
  obtain ⟨_, F2, _⟩ := inv_d (c := kX11_fault) (k := 1) (ws := [.ref 633]) kX11_fault_ok (by decide +kernel) (by decide +kernel) (by decide) (Two.mk rfl trivial) V1 E2
  have G1 := hS.2.frm hS.1.six.1.1.sh F1 (by decide +kernel)
  exact ⟨r1, M1, M2, E1, E2, V1, S2, G1.frm V1.1.sh F2 (by decide +kernel)⟩
set_option maxRecDepth 200000 in
theorem pg_7 (hS : SVG M) : ∃ r1 M1 M2, Ev none 999 89 0 [some (.ref 0), some (.int x1), some (.int x2), some (.int x3), some (.int x4), some (.int x5), none] [] M (some (.int r1)) M1 0 0 ∧ Ev none 999 190 0 [some (.ref 633), some (.int x1), some (.int x2), some (.int x3), some (.int x4), some (.int x5), none] [] M1 (some (.int r1)) M2 0 0 ∧ INV M1 ∧ SVG M2 := by
  obtain ⟨r1, M1, M2, E1, E2, V1, S2⟩ := pj_7 (x1 := x1) (x2 := x2) (x3 := x3) (x4 := x4) (x5 := x5) hS.1
  obtain ⟨_, F1, _⟩ := inv_d (c := kX10_wish) (k := 7) (ws := [.ref 0, .int x1, .int x2, .int x3, .int x4, .int x5]) kX10_wish_ok (by decide +kernel) (by decide +kernel) (by decide) (Two.mk rfl (Two.mk ⟨x1, rfl, i32_any x1⟩ (Two.mk ⟨x2, rfl, i32_any x2⟩ (Two.mk ⟨x3, rfl, i32_any x3⟩ (Two.mk ⟨x4, rfl, i32_any x4⟩ (Two.mk ⟨x5, rfl, i32_any x5⟩ trivial)))))) hS.1.six.1 E1
  obtain ⟨_, F2, _⟩ := inv_d (c := kX11_wish) (k := 7) (ws := [.ref 633, .int x1, .int x2, .int x3, .int x4, .int x5]) kX11_wish_ok (by decide +kernel) (by decide +kernel) (by decide) (Two.mk rfl (Two.mk ⟨x1, rfl, i32_any x1⟩ (Two.mk ⟨x2, rfl, i32_any x2⟩ (Two.mk ⟨x3, rfl, i32_any x3⟩ (Two.mk ⟨x4, rfl, i32_any x4⟩ (Two.mk ⟨x5, rfl, i32_any x5⟩ trivial)))))) V1 E2
  have G1 := hS.2.frm hS.1.six.1.1.sh F1 (by decide +kernel)
  obtain ⟨z, y, l, lb, lt, T, P, PI, hB, hN, hC, hD, hR, hI⟩ := hS.1
  have R1 : RST T P M1 := hR.frm ⟨V1.1.sh, hB.2.1.frm hB.1.1.sh F1 (by decide +kernel)⟩ F1 (by decide +kernel)
  have hP : okG P := G1.pp R1 hC.ok.1
  have i2 := og_row6 V1.1.sh F2 (by decide +kernel)
  rcases rwish_ok R1 hC.ok.1 E2 with ⟨_, _, R2⟩ | ⟨_, _, R2⟩
  · exact ⟨r1, M1, M2, E1, E2, V1, S2, OG.mk S2 R2 (hP) G1 i2⟩
  · exact ⟨r1, M1, M2, E1, E2, V1, S2, OG.mk S2 R2 (hP.kp hC.ok.1.2.1.2.1 (wis_kp hC.ok.1)) G1 i2⟩
set_option maxRecDepth 200000 in
theorem pg_8 (hS : SVG M) : ∃ r1 M1 M2, Ev none 999 90 0 [some (.ref 0), some (.int x1)] [] M (some (.int r1)) M1 0 0 ∧ Ev none 999 191 0 [some (.ref 633), some (.int x1)] [] M1 (some (.int r1)) M2 0 0 ∧ INV M1 ∧ SVG M2 := by
  obtain ⟨r1, M1, M2, E1, E2, V1, S2⟩ := pj_8 (x1 := x1) hS.1
  obtain ⟨_, F1, _⟩ := inv_d (c := kX10_drop) (k := 2) (ws := [.ref 0, .int x1]) kX10_drop_ok (by decide +kernel) (by decide +kernel) (by decide) (Two.mk rfl (Two.mk ⟨x1, rfl, i32_any x1⟩ trivial)) hS.1.six.1 E1
  obtain ⟨_, F2, _⟩ := inv_d (c := kX11_drop) (k := 2) (ws := [.ref 633, .int x1]) kX11_drop_ok (by decide +kernel) (by decide +kernel) (by decide) (Two.mk rfl (Two.mk ⟨x1, rfl, i32_any x1⟩ trivial)) V1 E2
  have G1 := hS.2.frm hS.1.six.1.1.sh F1 (by decide +kernel)
  obtain ⟨z, y, l, lb, lt, T, P, PI, hB, hN, hC, hD, hR, hI⟩ := hS.1
  have R1 : RST T P M1 := hR.frm ⟨V1.1.sh, hB.2.1.frm hB.1.1.sh F1 (by decide +kernel)⟩ F1 (by decide +kernel)
  have hP : okG P := G1.pp R1 hC.ok.1
  have i2 := og_row6 V1.1.sh F2 (by decide +kernel)
  rcases rdrop_ok R1 hC.ok.1 E2 with ⟨_, _, R2⟩ | ⟨a, _, R2⟩
  · exact ⟨r1, M1, M2, E1, E2, V1, S2, OG.mk S2 R2 (hP) G1 i2⟩
  · exact ⟨r1, M1, M2, E1, E2, V1, S2, OG.mk S2 R2 (hP.kp hC.ok.1.2.1.2.1 (drp_kp hC.ok.1 a)) G1 i2⟩
set_option maxRecDepth 200000 in
theorem pg_9 (hS : SVG M) : ∃ r1 M1 M2, Ev none 999 91 0 [some (.ref 0), some (.int x1)] [] M (some (.int r1)) M1 0 0 ∧ Ev none 999 207 0 [some (.ref 633), some (.int x1), none] [] M1 (some (.int r1)) M2 0 0 ∧ INV M1 ∧ SVG M2 := by
  obtain ⟨r1, M1, M2, E1, E2, V1, S2⟩ := pj_9 (x1 := x1) hS.1
  obtain ⟨_, F1, _⟩ := inv_d (c := kX10_run) (k := 2) (ws := [.ref 0, .int x1]) kX10_run_ok (by decide +kernel) (by decide +kernel) (by decide) (Two.mk rfl (Two.mk ⟨x1, rfl, i32_any x1⟩ trivial)) hS.1.six.1 E1
  obtain ⟨_, F2, _⟩ := inv_d (c := kX11_run) (k := 3) (ws := [.ref 633, .int x1]) kX11_run_ok (by decide +kernel) (by decide +kernel) (by decide) (Two.mk rfl (Two.mk ⟨x1, rfl, i32_any x1⟩ trivial)) V1 E2
  have G1 := hS.2.frm hS.1.six.1.1.sh F1 (by decide +kernel)
  obtain ⟨z, y, l, lb, lt, T, P, PI, hB, hN, hC, hD, hR, hI⟩ := hS.1
  have R1 : RST T P M1 := hR.frm ⟨V1.1.sh, hB.2.1.frm hB.1.1.sh F1 (by decide +kernel)⟩ F1 (by decide +kernel)
  have hP : okG P := G1.pp R1 hC.ok.1
  have i2 := og_row6 V1.1.sh F2 (by decide +kernel)
  rcases rrun_ok R1 hC.ok.1 hC.ok.2.1 hC.ok.2.2.1 (b42 V1) E2 with ⟨_, _, R2⟩ | ⟨_, _, R2, _, _⟩
  · exact ⟨r1, M1, M2, E1, E2, V1, S2, OG.mk S2 R2 (hP) G1 i2⟩
  · exact ⟨r1, M1, M2, E1, E2, V1, S2, OG.mk S2 R2 (hP.kp hC.ok.1.2.1.2.1 (tks_kp x1.toInt.toNat (P, []) hC.ok.1 hC.ok.2.1)) G1 i2⟩
set_option maxRecDepth 200000 in
theorem pg_10 (hS : SVG M) : ∃ r1 M1 M2, Ev none 999 92 0 [some (.ref 0)] [] M (some (.int r1)) M1 0 0 ∧ Ev none 999 209 0 [some (.ref 633)] [] M1 (some (.int r1)) M2 0 0 ∧ INV M1 ∧ SVG M2 := by
  obtain ⟨r1, M1, M2, E1, E2, V1, S2⟩ := pj_10 hS.1
  obtain ⟨_, F1, _⟩ := inv_d (c := kX10_week) (k := 1) (ws := [.ref 0]) kX10_week_ok (by decide +kernel) (by decide +kernel) (by decide) (Two.mk rfl trivial) hS.1.six.1 E1
  obtain ⟨_, F2, _⟩ := inv_d (c := kX11_week) (k := 1) (ws := [.ref 633]) kX11_week_ok (by decide +kernel) (by decide +kernel) (by decide) (Two.mk rfl trivial) V1 E2
  have G1 := hS.2.frm hS.1.six.1.1.sh F1 (by decide +kernel)
  obtain ⟨z, y, l, lb, lt, T, P, PI, hB, hN, hC, hD, hR, hI⟩ := hS.1
  have R1 : RST T P M1 := hR.frm ⟨V1.1.sh, hB.2.1.frm hB.1.1.sh F1 (by decide +kernel)⟩ F1 (by decide +kernel)
  have hP : okG P := G1.pp R1 hC.ok.1
  have i2 := og_row6 V1.1.sh F2 (by decide +kernel)
  obtain ⟨_, R2⟩ := rweek_ok R1 hC.ok.1 E2
  exact ⟨r1, M1, M2, E1, E2, V1, S2, OG.mk S2 R2 (hP.kp hC.ok.1.2.1.2.1 (wek_kp (R1.2.2.2 0 (by decide)).1.2 hC.ok.1.1 hC.ok.1.2.1.2.1 hP)) G1 i2⟩
set_option maxRecDepth 200000 in
theorem pg_11 (hS : SVG M) : ∃ r1 M1 M2, Ev none 999 93 0 [some (.ref 0), some (.int x1), none, none] [] M (some (.int r1)) M1 0 0 ∧ Ev none 999 210 0 [some (.ref 633), some (.int x1), none] [] M1 (some (.int r1)) M2 0 0 ∧ INV M1 ∧ SVG M2 := by
  obtain ⟨r1, M1, M2, E1, E2, V1, S2⟩ := pj_11 (x1 := x1) hS.1
  obtain ⟨_, F1, _⟩ := inv_d (c := kX10_rain) (k := 4) (ws := [.ref 0, .int x1]) kX10_rain_ok (by decide +kernel) (by decide +kernel) (by decide) (Two.mk rfl (Two.mk ⟨x1, rfl, i32_any x1⟩ trivial)) hS.1.six.1 E1
  obtain ⟨_, F2, _⟩ := inv_d (c := kX11_rain) (k := 3) (ws := [.ref 633, .int x1]) kX11_rain_ok (by decide +kernel) (by decide +kernel) (by decide) (Two.mk rfl (Two.mk ⟨x1, rfl, i32_any x1⟩ trivial)) V1 E2
  have G1 := hS.2.frm hS.1.six.1.1.sh F1 (by decide +kernel)
  obtain ⟨z, y, l, lb, lt, T, P, PI, hB, hN, hC, hD, hR, hI⟩ := hS.1
  have R1 : RST T P M1 := hR.frm ⟨V1.1.sh, hB.2.1.frm hB.1.1.sh F1 (by decide +kernel)⟩ F1 (by decide +kernel)
  have hP : okG P := G1.pp R1 hC.ok.1
  have i2 := og_row6 V1.1.sh F2 (by decide +kernel)
  rcases rrain_ok R1 hC.ok.1 E2 with ⟨_, _, R2⟩ | ⟨_, _, R2⟩
  · exact ⟨r1, M1, M2, E1, E2, V1, S2, OG.mk S2 R2 (hP) G1 i2⟩
  · exact ⟨r1, M1, M2, E1, E2, V1, S2, OG.mk S2 R2 (hP.kp hC.ok.1.2.1.2.1 (rai_kp _ _ _)) G1 i2⟩
set_option maxRecDepth 200000 in
theorem pg_12 (hS : SVG M) : ∃ M1 M2, Ev none 999 94 0 [some (.ref 0)] [] M none M1 0 0 ∧ Ev none 999 211 0 [some (.ref 633), none] [] M1 none M2 0 0 ∧ INV M1 ∧ SVG M2 := by
  obtain ⟨M1, M2, E1, E2, V1, S2⟩ := pj_12 hS.1
  obtain ⟨_, F1, _⟩ := inv_d (c := kX10_snow) (k := 1) (ws := [.ref 0]) kX10_snow_ok (by decide +kernel) (by decide +kernel) (by decide) (Two.mk rfl trivial) hS.1.six.1 E1
  obtain ⟨_, F2, _⟩ := inv_d (c := kX11_snow) (k := 2) (ws := [.ref 633]) kX11_snow_ok (by decide +kernel) (by decide +kernel) (by decide) (Two.mk rfl trivial) V1 E2
  have G1 := hS.2.frm hS.1.six.1.1.sh F1 (by decide +kernel)
  obtain ⟨z, y, l, lb, lt, T, P, PI, hB, hN, hC, hD, hR, hI⟩ := hS.1
  have R1 : RST T P M1 := hR.frm ⟨V1.1.sh, hB.2.1.frm hB.1.1.sh F1 (by decide +kernel)⟩ F1 (by decide +kernel)
  have hP : okG P := G1.pp R1 hC.ok.1
  have i2 := og_row6 V1.1.sh F2 (by decide +kernel)
  obtain ⟨_, R2⟩ := rsnow_ok R1 hC.ok.1 E2
  exact ⟨M1, M2, E1, E2, V1, S2, OG.mk S2 R2 (hP.kp hC.ok.1.2.1.2.1 (zer_kp (Or.inr rfl) _ _ _)) G1 i2⟩
set_option maxRecDepth 200000 in
theorem pg_13 (hS : SVG M) : ∃ r1 M1 M2, Ev none 999 95 0 [some (.ref 0), some (.int x1), some (.int x2)] [] M (some (.int r1)) M1 0 0 ∧ Ev none 999 212 0 [some (.ref 633), some (.int x1), some (.int x2)] [] M1 (some (.int r1)) M2 0 0 ∧ INV M1 ∧ SVG M2 := by
  obtain ⟨r1, M1, M2, E1, E2, V1, S2⟩ := pj_13 (x1 := x1) (x2 := x2) hS.1
  obtain ⟨_, F1, _⟩ := inv_d (c := kX10_lay) (k := 3) (ws := [.ref 0, .int x1, .int x2]) kX10_lay_ok (by decide +kernel) (by decide +kernel) (by decide) (Two.mk rfl (Two.mk ⟨x1, rfl, i32_any x1⟩ (Two.mk ⟨x2, rfl, i32_any x2⟩ trivial))) hS.1.six.1 E1
  obtain ⟨_, F2, _⟩ := inv_d (c := kX11_lay) (k := 3) (ws := [.ref 633, .int x1, .int x2]) kX11_lay_ok (by decide +kernel) (by decide +kernel) (by decide) (Two.mk rfl (Two.mk ⟨x1, rfl, i32_any x1⟩ (Two.mk ⟨x2, rfl, i32_any x2⟩ trivial))) V1 E2
  have G1 := hS.2.frm hS.1.six.1.1.sh F1 (by decide +kernel)
  obtain ⟨z, y, l, lb, lt, T, P, PI, hB, hN, hC, hD, hR, hI⟩ := hS.1
  have R1 : RST T P M1 := hR.frm ⟨V1.1.sh, hB.2.1.frm hB.1.1.sh F1 (by decide +kernel)⟩ F1 (by decide +kernel)
  have hP : okG P := G1.pp R1 hC.ok.1
  have i2 := og_row6 V1.1.sh F2 (by decide +kernel)
  rcases rlay_ok R1 hC.ok.1 hC.ok.2.1 E2 with ⟨_, _, R2⟩ | ⟨a, _, R2⟩
  · exact ⟨r1, M1, M2, E1, E2, V1, S2, OG.mk S2 R2 (hP) G1 i2⟩
  · exact ⟨r1, M1, M2, E1, E2, V1, S2, OG.mk S2 R2 (hP.lay hC.ok.1 a) G1 i2⟩
set_option maxRecDepth 200000 in
theorem pg_15 (hS : SVG M) : ∃ r1 M1 M2, Ev none 999 96 0 [some (.ref 0), some (.int x1), some (.int x2), none] [] M (some (.int r1)) M1 0 0 ∧ Ev none 999 215 0 [some (.ref 633), some (.int x1), some (.int x2)] [] M1 (some (.int r1)) M2 0 0 ∧ INV M1 ∧ SVG M2 := by
  obtain ⟨r1, M1, M2, E1, E2, V1, S2⟩ := pj_15 (x1 := x1) (x2 := x2) hS.1
  obtain ⟨_, F1, _⟩ := inv_d (c := kX10_walker) (k := 4) (ws := [.ref 0, .int x1, .int x2]) kX10_walker_ok (by decide +kernel) (by decide +kernel) (by decide) (Two.mk rfl (Two.mk ⟨x1, rfl, i32_any x1⟩ (Two.mk ⟨x2, rfl, i32_any x2⟩ trivial))) hS.1.six.1 E1
  obtain ⟨_, F2, _⟩ := inv_d (c := kX11_walker) (k := 3) (ws := [.ref 633, .int x1, .int x2]) kX11_walker_ok (by decide +kernel) (by decide +kernel) (by decide) (Two.mk rfl (Two.mk ⟨x1, rfl, i32_any x1⟩ (Two.mk ⟨x2, rfl, i32_any x2⟩ trivial))) V1 E2
  have G1 := hS.2.frm hS.1.six.1.1.sh F1 (by decide +kernel)
  exact ⟨r1, M1, M2, E1, E2, V1, S2, G1.frm V1.1.sh F2 (by decide +kernel)⟩
set_option maxRecDepth 200000 in
theorem pg_16 (hS : SVG M) : ∃ r1 M1 M2, Ev none 999 97 0 [some (.ref 0)] [] M (some (.int r1)) M1 0 0 ∧ Ev none 999 217 0 [some (.ref 633)] [] M1 (some (.int r1)) M2 0 0 ∧ INV M1 ∧ SVG M2 := by
  obtain ⟨r1, M1, M2, E1, E2, V1, S2⟩ := pj_16 hS.1
  obtain ⟨_, F1, _⟩ := inv_d (c := kX10_net) (k := 1) (ws := [.ref 0]) kX10_net_ok (by decide +kernel) (by decide +kernel) (by decide) (Two.mk rfl trivial) hS.1.six.1 E1
  obtain ⟨_, F2, _⟩ := inv_d (c := kX11_net) (k := 1) (ws := [.ref 633]) kX11_net_ok (by decide +kernel) (by decide +kernel) (by decide) (Two.mk rfl trivial) V1 E2
  have G1 := hS.2.frm hS.1.six.1.1.sh F1 (by decide +kernel)
  exact ⟨r1, M1, M2, E1, E2, V1, S2, G1.frm V1.1.sh F2 (by decide +kernel)⟩
set_option maxRecDepth 200000 in
theorem pg_17 (hS : SVG M) : ∃ r1 r2 M1 M2, Ev none 999 98 0 [some (.ref 0)] [] M (some (.int r1)) M1 0 0 ∧ Ev none 999 218 0 [some (.ref 633), none, none] [] M1 (some (.int r2)) M2 0 0 ∧ INV M1 ∧ SVG M2 := by
  obtain ⟨r1, r2, M1, M2, E1, E2, V1, S2⟩ := pj_17 hS.1
  obtain ⟨_, F1, _⟩ := inv_d (c := kX10_pieces) (k := 1) (ws := [.ref 0]) kX10_pieces_ok (by decide +kernel) (by decide +kernel) (by decide) (Two.mk rfl trivial) hS.1.six.1 E1
  obtain ⟨_, F2, _⟩ := inv_d (c := kX11_pieces) (k := 3) (ws := [.ref 633]) kX11_pieces_ok (by decide +kernel) (by decide +kernel) (by decide) (Two.mk rfl trivial) V1 E2
  have G1 := hS.2.frm hS.1.six.1.1.sh F1 (by decide +kernel)
  exact ⟨r1, r2, M1, M2, E1, E2, V1, S2, G1.frm V1.1.sh F2 (by decide +kernel)⟩
set_option maxRecDepth 200000 in
theorem pg_18 (hS : SVG M) : ∃ r1 M1 M2, Ev none 999 99 0 [some (.ref 0), some (.int x1), some (.int x2), none] [] M (some (.int r1)) M1 0 0 ∧ Ev none 999 223 0 [some (.ref 633), some (.int x1), some (.int x2), none, none] [] M1 (some (.int r1)) M2 0 0 ∧ INV M1 ∧ SVG M2 := by
  obtain ⟨r1, M1, M2, E1, E2, V1, S2⟩ := pj_18 (x1 := x1) (x2 := x2) hS.1
  obtain ⟨_, F1, _⟩ := inv_d (c := kX10_rests) (k := 4) (ws := [.ref 0, .int x1, .int x2]) kX10_rests_ok (by decide +kernel) (by decide +kernel) (by decide) (Two.mk rfl (Two.mk ⟨x1, rfl, i32_any x1⟩ (Two.mk ⟨x2, rfl, i32_any x2⟩ trivial))) hS.1.six.1 E1
  obtain ⟨_, F2, _⟩ := inv_d (c := kX11_rests) (k := 5) (ws := [.ref 633, .int x1, .int x2]) kX11_rests_ok (by decide +kernel) (by decide +kernel) (by decide) (Two.mk rfl (Two.mk ⟨x1, rfl, i32_any x1⟩ (Two.mk ⟨x2, rfl, i32_any x2⟩ trivial))) V1 E2
  have G1 := hS.2.frm hS.1.six.1.1.sh F1 (by decide +kernel)
  obtain ⟨z, y, l, lb, lt, T, P, PI, hB, hN, hC, hD, hR, hI⟩ := hS.1
  have R1 : RST T P M1 := hR.frm ⟨V1.1.sh, hB.2.1.frm hB.1.1.sh F1 (by decide +kernel)⟩ F1 (by decide +kernel)
  have hP : okG P := G1.pp R1 hC.ok.1
  have i2 := og_row6 V1.1.sh F2 (by decide +kernel)
  rcases rrests_ok R1 hC.ok.1 hC.ok.2.1 (b42 V1) E2 with ⟨_, _, R2⟩ | ⟨_, _, R2⟩
  · exact ⟨r1, M1, M2, E1, E2, V1, S2, OG.mk S2 R2 (hP) G1 i2⟩
  · exact ⟨r1, M1, M2, E1, E2, V1, S2, OG.mk S2 R2 (hP) G1 i2⟩
set_option maxRecDepth 200000 in
theorem pg_19 (hS : SVG M) : ∃ r1 r2 M1 M2, Ev none 999 100 0 [some (.ref 0), none] [] M (some (.int r1)) M1 0 0 ∧ Ev none 999 225 0 [some (.ref 633), none, none, none, none, none, none, none] [] M1 (some (.int r2)) M2 0 0 ∧ INV M1 ∧ SVG M2 := by
  obtain ⟨r1, r2, M1, M2, E1, E2, V1, S2⟩ := pj_19 hS.1
  obtain ⟨_, F1, _⟩ := inv_d (c := kX10_least) (k := 2) (ws := [.ref 0]) kX10_least_ok (by decide +kernel) (by decide +kernel) (by decide) (Two.mk rfl trivial) hS.1.six.1 E1
  obtain ⟨_, F2, _⟩ := inv_d (c := kX11_least) (k := 8) (ws := [.ref 633]) kX11_least_ok (by decide +kernel) (by decide +kernel) (by decide) (Two.mk rfl trivial) V1 E2
  have G1 := hS.2.frm hS.1.six.1.1.sh F1 (by decide +kernel)
  exact ⟨r1, r2, M1, M2, E1, E2, V1, S2, G1.frm V1.1.sh F2 (by decide +kernel)⟩
set_option maxRecDepth 200000 in
theorem pg_20 (hS : SVG M) : ∃ r1 r2 M1 M2, Ev none 999 102 0 [some (.ref 0), some (.int x1), some (.int x2)] [] M (some (.int r1)) M1 0 0 ∧ Ev none 999 228 0 [some (.ref 633), some (.int x1), some (.int x2), none, none] [] M1 (some (.int r2)) M2 0 0 ∧ INV M1 ∧ SVG M2 := by
  obtain ⟨r1, r2, M1, M2, E1, E2, V1, S2⟩ := pj_20 (x1 := x1) (x2 := x2) hS.1
  obtain ⟨_, F1, _⟩ := inv_d (c := kX10_longer) (k := 3) (ws := [.ref 0, .int x1, .int x2]) kX10_longer_ok (by decide +kernel) (by decide +kernel) (by decide) (Two.mk rfl (Two.mk ⟨x1, rfl, i32_any x1⟩ (Two.mk ⟨x2, rfl, i32_any x2⟩ trivial))) hS.1.six.1 E1
  obtain ⟨_, F2, _⟩ := inv_d (c := kX11_longer) (k := 5) (ws := [.ref 633, .int x1, .int x2]) kX11_longer_ok (by decide +kernel) (by decide +kernel) (by decide) (Two.mk rfl (Two.mk ⟨x1, rfl, i32_any x1⟩ (Two.mk ⟨x2, rfl, i32_any x2⟩ trivial))) V1 E2
  have G1 := hS.2.frm hS.1.six.1.1.sh F1 (by decide +kernel)
  exact ⟨r1, r2, M1, M2, E1, E2, V1, S2, G1.frm V1.1.sh F2 (by decide +kernel)⟩
set_option maxRecDepth 200000 in
theorem pg_21 (hS : SVG M) : ∃ r1 M1 M2, Ev none 999 103 0 [some (.ref 0), some (.int x1), some (.int x2), some (.int x3), some (.int x4), none, none, none, none, none, none] [] M (some (.int r1)) M1 0 0 ∧ Ev none 999 229 0 [some (.ref 633), some (.int x1), some (.int x2), some (.int x3), some (.int x4), none, none, none, none, none] [] M1 (some (.int r1)) M2 0 0 ∧ INV M1 ∧ SVG M2 := by
  obtain ⟨r1, M1, M2, E1, E2, V1, S2⟩ := pj_21 (x1 := x1) (x2 := x2) (x3 := x3) (x4 := x4) hS.1
  obtain ⟨_, F1, _⟩ := inv_d (c := kX10_turns) (k := 11) (ws := [.ref 0, .int x1, .int x2, .int x3, .int x4]) kX10_turns_ok (by decide +kernel) (by decide +kernel) (by decide) (Two.mk rfl (Two.mk ⟨x1, rfl, i32_any x1⟩ (Two.mk ⟨x2, rfl, i32_any x2⟩ (Two.mk ⟨x3, rfl, i32_any x3⟩ (Two.mk ⟨x4, rfl, i32_any x4⟩ trivial))))) hS.1.six.1 E1
  obtain ⟨_, F2, _⟩ := inv_d (c := kX11_turns) (k := 10) (ws := [.ref 633, .int x1, .int x2, .int x3, .int x4]) kX11_turns_ok (by decide +kernel) (by decide +kernel) (by decide) (Two.mk rfl (Two.mk ⟨x1, rfl, i32_any x1⟩ (Two.mk ⟨x2, rfl, i32_any x2⟩ (Two.mk ⟨x3, rfl, i32_any x3⟩ (Two.mk ⟨x4, rfl, i32_any x4⟩ trivial))))) V1 E2
  have G1 := hS.2.frm hS.1.six.1.1.sh F1 (by decide +kernel)
  obtain ⟨z, y, l, lb, lt, T, P, PI, hB, hN, hC, hD, hR, hI⟩ := hS.1
  have R1 : RST T P M1 := hR.frm ⟨V1.1.sh, hB.2.1.frm hB.1.1.sh F1 (by decide +kernel)⟩ F1 (by decide +kernel)
  have hP : okG P := G1.pp R1 hC.ok.1
  have i2 := og_row6 V1.1.sh F2 (by decide +kernel)
  obtain ⟨R2, _⟩ := rturns_ok R1 hC.ok.1 hC.ok.2.1 (b42 V1) E2
  exact ⟨r1, M1, M2, E1, E2, V1, S2, OG.mk S2 R2 (hP) G1 i2⟩
set_option maxRecDepth 200000 in
theorem pg_22 (hS : SVG M) : ∃ r1 M1 M2, Ev none 999 104 0 [some (.ref 0), some (.int x1), some (.int x2), some (.int x3), some (.int x4)] [] M (some (.int r1)) M1 0 0 ∧ Ev none 999 231 0 [some (.ref 633), some (.int x1), some (.int x2), some (.int x3), some (.int x4)] [] M1 (some (.int r1)) M2 0 0 ∧ INV M1 ∧ SVG M2 := by
  obtain ⟨r1, M1, M2, E1, E2, V1, S2⟩ := pj_22 (x1 := x1) (x2 := x2) (x3 := x3) (x4 := x4) hS.1
  obtain ⟨_, F1, _⟩ := inv_d (c := kX10_paved) (k := 5) (ws := [.ref 0, .int x1, .int x2, .int x3, .int x4]) kX10_paved_ok (by decide +kernel) (by decide +kernel) (by decide) (Two.mk rfl (Two.mk ⟨x1, rfl, i32_any x1⟩ (Two.mk ⟨x2, rfl, i32_any x2⟩ (Two.mk ⟨x3, rfl, i32_any x3⟩ (Two.mk ⟨x4, rfl, i32_any x4⟩ trivial))))) hS.1.six.1 E1
  obtain ⟨_, F2, _⟩ := inv_d (c := kX11_paved) (k := 5) (ws := [.ref 633, .int x1, .int x2, .int x3, .int x4]) kX11_paved_ok (by decide +kernel) (by decide +kernel) (by decide) (Two.mk rfl (Two.mk ⟨x1, rfl, i32_any x1⟩ (Two.mk ⟨x2, rfl, i32_any x2⟩ (Two.mk ⟨x3, rfl, i32_any x3⟩ (Two.mk ⟨x4, rfl, i32_any x4⟩ trivial))))) V1 E2
  have G1 := hS.2.frm hS.1.six.1.1.sh F1 (by decide +kernel)
  obtain ⟨z, y, l, lb, lt, T, P, PI, hB, hN, hC, hD, hR, hI⟩ := hS.1
  have R1 : RST T P M1 := hR.frm ⟨V1.1.sh, hB.2.1.frm hB.1.1.sh F1 (by decide +kernel)⟩ F1 (by decide +kernel)
  have hP : okG P := G1.pp R1 hC.ok.1
  have i2 := og_row6 V1.1.sh F2 (by decide +kernel)
  obtain ⟨R2, _⟩ := rpaved_ok R1 hC.ok.1 hC.ok.2.1 (b42 V1) E2
  exact ⟨r1, M1, M2, E1, E2, V1, S2, OG.mk S2 R2 (hP) G1 i2⟩
set_option maxRecDepth 200000 in
theorem pg_23 (hS : SVG M) : ∃ r1 M1 M2, Ev none 999 105 0 [some (.ref 0), some (.int x1), some (.int x2), none, none, none, none] [] M (some (.int r1)) M1 0 0 ∧ Ev none 999 232 0 [some (.ref 633), some (.int x1), some (.int x2), none, none, none, none] [] M1 (some (.int r1)) M2 0 0 ∧ INV M1 ∧ SVG M2 := by
  obtain ⟨r1, M1, M2, E1, E2, V1, S2⟩ := pj_23 (x1 := x1) (x2 := x2) hS.1
  obtain ⟨_, F1, _⟩ := inv_d (c := kX10_wait) (k := 7) (ws := [.ref 0, .int x1, .int x2]) kX10_wait_ok (by decide +kernel) (by decide +kernel) (by decide) (Two.mk rfl (Two.mk ⟨x1, rfl, i32_any x1⟩ (Two.mk ⟨x2, rfl, i32_any x2⟩ trivial))) hS.1.six.1 E1
  obtain ⟨_, F2, _⟩ := inv_d (c := kX11_wait) (k := 7) (ws := [.ref 633, .int x1, .int x2]) kX11_wait_ok (by decide +kernel) (by decide +kernel) (by decide) (Two.mk rfl (Two.mk ⟨x1, rfl, i32_any x1⟩ (Two.mk ⟨x2, rfl, i32_any x2⟩ trivial))) V1 E2
  have G1 := hS.2.frm hS.1.six.1.1.sh F1 (by decide +kernel)
  obtain ⟨z, y, l, lb, lt, T, P, PI, hB, hN, hC, hD, hR, hI⟩ := hS.1
  have R1 : RST T P M1 := hR.frm ⟨V1.1.sh, hB.2.1.frm hB.1.1.sh F1 (by decide +kernel)⟩ F1 (by decide +kernel)
  have hP : okG P := G1.pp R1 hC.ok.1
  have i2 := og_row6 V1.1.sh F2 (by decide +kernel)
  obtain ⟨R2, _⟩ := rwait_ok R1 hC.ok.1 hC.ok.2.1 (b42 V1) E2
  exact ⟨r1, M1, M2, E1, E2, V1, S2, OG.mk S2 R2 (hP) G1 i2⟩
set_option maxRecDepth 200000 in
theorem pg_24 (hS : SVG M) : ∃ r1 M1 M2, Ev none 999 108 0 [some (.ref 0), some (.int x1), some (.int x2), none] [] M (some (.int r1)) M1 0 0 ∧ Ev none 999 235 0 [some (.ref 633), some (.int x1), some (.int x2), none, none, none] [] M1 (some (.int r1)) M2 0 0 ∧ INV M1 ∧ SVG M2 := by
  obtain ⟨r1, M1, M2, E1, E2, V1, S2⟩ := pj_24 (x1 := x1) (x2 := x2) hS.1
  obtain ⟨_, F1, _⟩ := inv_d (c := kX10_fences) (k := 4) (ws := [.ref 0, .int x1, .int x2]) kX10_fences_ok (by decide +kernel) (by decide +kernel) (by decide) (Two.mk rfl (Two.mk ⟨x1, rfl, i32_any x1⟩ (Two.mk ⟨x2, rfl, i32_any x2⟩ trivial))) hS.1.six.1 E1
  obtain ⟨_, F2, _⟩ := inv_d (c := kX11_fences) (k := 6) (ws := [.ref 633, .int x1, .int x2]) kX11_fences_ok (by decide +kernel) (by decide +kernel) (by decide) (Two.mk rfl (Two.mk ⟨x1, rfl, i32_any x1⟩ (Two.mk ⟨x2, rfl, i32_any x2⟩ trivial))) V1 E2
  have G1 := hS.2.frm hS.1.six.1.1.sh F1 (by decide +kernel)
  obtain ⟨z, y, l, lb, lt, T, P, PI, hB, hN, hC, hD, hR, hI⟩ := hS.1
  have R1 : RST T P M1 := hR.frm ⟨V1.1.sh, hB.2.1.frm hB.1.1.sh F1 (by decide +kernel)⟩ F1 (by decide +kernel)
  have hP : okG P := G1.pp R1 hC.ok.1
  have i2 := og_row6 V1.1.sh F2 (by decide +kernel)
  rcases rfences_ok (n := (zI M1 633 2).toInt.toNat) (o := fun k => rN M1 634 k &&& 255) R1 hC.ok.1 hC.ok.2.1 (b42 V1) (tpm V1) (fun _ _ => rfl) E2 with ⟨_, _, R2, _⟩ | ⟨_, _, R2, _⟩
  · exact ⟨r1, M1, M2, E1, E2, V1, S2, OG.mk S2 R2 (hP) G1 i2⟩
  · exact ⟨r1, M1, M2, E1, E2, V1, S2, OG.mk S2 R2 (hP) G1 i2⟩
set_option maxRecDepth 200000 in
theorem pg_25 (hS : SVG M) : ∃ r1 r2 M1 M2, Ev none 999 113 0 [some (.ref 0), some (.int x1)] [] M (some (.int r1)) M1 0 0 ∧ Ev none 999 236 0 [some (.ref 633), some (.int x1)] [] M1 (some (.int r2)) M2 0 0 ∧ INV M1 ∧ SVG M2 := by
  obtain ⟨r1, r2, M1, M2, E1, E2, V1, S2⟩ := pj_25 (x1 := x1) hS.1
  obtain ⟨_, F1, _⟩ := inv_d (c := kX10_fenceAt) (k := 2) (ws := [.ref 0, .int x1]) kX10_fenceAt_ok (by decide +kernel) (by decide +kernel) (by decide) (Two.mk rfl (Two.mk ⟨x1, rfl, i32_any x1⟩ trivial)) hS.1.six.1 E1
  obtain ⟨_, F2, _⟩ := inv_d (c := kX11_fenceAt) (k := 2) (ws := [.ref 633, .int x1]) kX11_fenceAt_ok (by decide +kernel) (by decide +kernel) (by decide) (Two.mk rfl (Two.mk ⟨x1, rfl, i32_any x1⟩ trivial)) V1 E2
  have G1 := hS.2.frm hS.1.six.1.1.sh F1 (by decide +kernel)
  exact ⟨r1, r2, M1, M2, E1, E2, V1, S2, G1.frm V1.1.sh F2 (by decide +kernel)⟩
set_option maxRecDepth 200000 in
theorem pg_26 (hS : SVG M) : ∃ r1 M1 M2, Ev none 999 114 0 [some (.ref 0), some (.int x1), some (.int x2), some (.int x3), some (.int x4), none] [] M (some (.int r1)) M1 0 0 ∧ Ev none 999 237 0 [some (.ref 633), some (.int x1), some (.int x2), some (.int x3), some (.int x4), none, none] [] M1 (some (.int r1)) M2 0 0 ∧ INV M1 ∧ SVG M2 := by
  obtain ⟨r1, M1, M2, E1, E2, V1, S2⟩ := pj_26 (x1 := x1) (x2 := x2) (x3 := x3) (x4 := x4) hS.1
  obtain ⟨_, F1, _⟩ := inv_d (c := kX10_lasts) (k := 6) (ws := [.ref 0, .int x1, .int x2, .int x3, .int x4]) kX10_lasts_ok (by decide +kernel) (by decide +kernel) (by decide) (Two.mk rfl (Two.mk ⟨x1, rfl, i32_any x1⟩ (Two.mk ⟨x2, rfl, i32_any x2⟩ (Two.mk ⟨x3, rfl, i32_any x3⟩ (Two.mk ⟨x4, rfl, i32_any x4⟩ trivial))))) hS.1.six.1 E1
  obtain ⟨_, F2, _⟩ := inv_d (c := kX11_lasts) (k := 7) (ws := [.ref 633, .int x1, .int x2, .int x3, .int x4]) kX11_lasts_ok (by decide +kernel) (by decide +kernel) (by decide) (Two.mk rfl (Two.mk ⟨x1, rfl, i32_any x1⟩ (Two.mk ⟨x2, rfl, i32_any x2⟩ (Two.mk ⟨x3, rfl, i32_any x3⟩ (Two.mk ⟨x4, rfl, i32_any x4⟩ trivial))))) V1 E2
  have G1 := hS.2.frm hS.1.six.1.1.sh F1 (by decide +kernel)
  obtain ⟨z, y, l, lb, lt, T, P, PI, hB, hN, hC, hD, hR, hI⟩ := hS.1
  have R1 : RST T P M1 := hR.frm ⟨V1.1.sh, hB.2.1.frm hB.1.1.sh F1 (by decide +kernel)⟩ F1 (by decide +kernel)
  have hP : okG P := G1.pp R1 hC.ok.1
  have i2 := og_row6 V1.1.sh F2 (by decide +kernel)
  rcases rlasts_ok R1 hC.ok.1 hC.ok.2.1 (b42 V1) E2 with ⟨_, _, R2⟩ | ⟨_, _, R2⟩
  · exact ⟨r1, M1, M2, E1, E2, V1, S2, OG.mk S2 R2 (hP) G1 i2⟩
  · exact ⟨r1, M1, M2, E1, E2, V1, S2, OG.mk S2 R2 (hP) G1 i2⟩
set_option maxRecDepth 200000 in
theorem pg_27 (hS : SVG M) : ∃ r1 M1 M2, Ev none 999 115 0 [some (.ref 0), some (.int x1), some (.int x2), some (.int x3), none] [] M (some (.int r1)) M1 0 0 ∧ Ev none 999 240 0 [some (.ref 633), some (.int x1), some (.int x2), some (.int x3), none, none] [] M1 (some (.int r1)) M2 0 0 ∧ INV M1 ∧ SVG M2 := by
  obtain ⟨r1, M1, M2, E1, E2, V1, S2⟩ := pj_27 (x1 := x1) (x2 := x2) (x3 := x3) hS.1
  obtain ⟨_, F1, _⟩ := inv_d (c := kX10_way) (k := 5) (ws := [.ref 0, .int x1, .int x2, .int x3]) kX10_way_ok (by decide +kernel) (by decide +kernel) (by decide) (Two.mk rfl (Two.mk ⟨x1, rfl, i32_any x1⟩ (Two.mk ⟨x2, rfl, i32_any x2⟩ (Two.mk ⟨x3, rfl, i32_any x3⟩ trivial)))) hS.1.six.1 E1
  obtain ⟨_, F2, _⟩ := inv_d (c := kX11_way) (k := 6) (ws := [.ref 633, .int x1, .int x2, .int x3]) kX11_way_ok (by decide +kernel) (by decide +kernel) (by decide) (Two.mk rfl (Two.mk ⟨x1, rfl, i32_any x1⟩ (Two.mk ⟨x2, rfl, i32_any x2⟩ (Two.mk ⟨x3, rfl, i32_any x3⟩ trivial)))) V1 E2
  have G1 := hS.2.frm hS.1.six.1.1.sh F1 (by decide +kernel)
  exact ⟨r1, M1, M2, E1, E2, V1, S2, G1.frm V1.1.sh F2 (by decide +kernel)⟩
set_option maxRecDepth 200000 in
theorem pg_28 (hS : SVG M) : ∃ r1 r2 M1 M2, Ev none 999 116 0 [some (.ref 0), some (.int x1)] [] M (some (.int r1)) M1 0 0 ∧ Ev none 999 241 0 [some (.ref 633), some (.int x1)] [] M1 (some (.int r2)) M2 0 0 ∧ INV M1 ∧ SVG M2 := by
  obtain ⟨r1, r2, M1, M2, E1, E2, V1, S2⟩ := pj_28 (x1 := x1) hS.1
  obtain ⟨_, F1, _⟩ := inv_d (c := kX10_wayAt) (k := 2) (ws := [.ref 0, .int x1]) kX10_wayAt_ok (by decide +kernel) (by decide +kernel) (by decide) (Two.mk rfl (Two.mk ⟨x1, rfl, i32_any x1⟩ trivial)) hS.1.six.1 E1
  obtain ⟨_, F2, _⟩ := inv_d (c := kX11_wayAt) (k := 2) (ws := [.ref 633, .int x1]) kX11_wayAt_ok (by decide +kernel) (by decide +kernel) (by decide) (Two.mk rfl (Two.mk ⟨x1, rfl, i32_any x1⟩ trivial)) V1 E2
  have G1 := hS.2.frm hS.1.six.1.1.sh F1 (by decide +kernel)
  exact ⟨r1, r2, M1, M2, E1, E2, V1, S2, G1.frm V1.1.sh F2 (by decide +kernel)⟩
set_option maxRecDepth 200000 in
theorem pg_29 (hS : SVG M) : ∃ r1 r2 M1 M2, Ev none 999 117 0 [some (.ref 0), none] [] M (some (.int r1)) M1 0 0 ∧ Ev none 999 242 0 [some (.ref 633), none, none, none, none, none, none] [] M1 (some (.int r2)) M2 0 0 ∧ INV M1 ∧ SVG M2 := by
  obtain ⟨r1, r2, M1, M2, E1, E2, V1, S2⟩ := pj_29 hS.1
  obtain ⟨_, F1, _⟩ := inv_d (c := kX10_read) (k := 2) (ws := [.ref 0]) kX10_read_ok (by decide +kernel) (by decide +kernel) (by decide) (Two.mk rfl trivial) hS.1.six.1 E1
  obtain ⟨_, F2, _⟩ := inv_d (c := kX11_read_) (k := 7) (ws := [.ref 633]) kX11_read__ok (by decide +kernel) (by decide +kernel) (by decide) (Two.mk rfl trivial) V1 E2
  have G1 := hS.2.frm hS.1.six.1.1.sh F1 (by decide +kernel)
  exact ⟨r1, r2, M1, M2, E1, E2, V1, S2, G1.frm V1.1.sh F2 (by decide +kernel)⟩
set_option maxRecDepth 200000 in
theorem pg_30 (hS : SVG M) : ∃ r1 r2 M1 M2, Ev none 999 119 0 [some (.ref 0), some (.int x1), some (.int x2)] [] M (some (.int r1)) M1 0 0 ∧ Ev none 999 244 0 [some (.ref 633), some (.int x1), some (.int x2)] [] M1 (some (.int r2)) M2 0 0 ∧ INV M1 ∧ SVG M2 := by
  obtain ⟨r1, r2, M1, M2, E1, E2, V1, S2⟩ := pj_30 (x1 := x1) (x2 := x2) hS.1
  obtain ⟨_, F1, _⟩ := inv_d (c := kX10_reads) (k := 3) (ws := [.ref 0, .int x1, .int x2]) kX10_reads_ok (by decide +kernel) (by decide +kernel) (by decide) (Two.mk rfl (Two.mk ⟨x1, rfl, i32_any x1⟩ (Two.mk ⟨x2, rfl, i32_any x2⟩ trivial))) hS.1.six.1 E1
  obtain ⟨_, F2, _⟩ := inv_d (c := kX11_reads) (k := 3) (ws := [.ref 633, .int x1, .int x2]) kX11_reads_ok (by decide +kernel) (by decide +kernel) (by decide) (Two.mk rfl (Two.mk ⟨x1, rfl, i32_any x1⟩ (Two.mk ⟨x2, rfl, i32_any x2⟩ trivial))) V1 E2
  have G1 := hS.2.frm hS.1.six.1.1.sh F1 (by decide +kernel)
  exact ⟨r1, r2, M1, M2, E1, E2, V1, S2, G1.frm V1.1.sh F2 (by decide +kernel)⟩
set_option maxRecDepth 200000 in
theorem pg_31 (hS : SVG M) : ∃ r1 r2 M1 M2, Ev none 999 120 0 [some (.ref 0), some (.int x1), some (.int x2), none] [] M (some (.int r1)) M1 0 0 ∧ Ev none 999 245 0 [some (.ref 633), some (.int x1), some (.int x2), none, none, none, none] [] M1 (some (.int r2)) M2 0 0 ∧ INV M1 ∧ SVG M2 := by
  obtain ⟨r1, r2, M1, M2, E1, E2, V1, S2⟩ := pj_31 (x1 := x1) (x2 := x2) hS.1
  obtain ⟨_, F1, _⟩ := inv_d (c := kX10_fits) (k := 4) (ws := [.ref 0, .int x1, .int x2]) kX10_fits_ok (by decide +kernel) (by decide +kernel) (by decide) (Two.mk rfl (Two.mk ⟨x1, rfl, i32_any x1⟩ (Two.mk ⟨x2, rfl, i32_any x2⟩ trivial))) hS.1.six.1 E1
  obtain ⟨_, F2, _⟩ := inv_d (c := kX11_fits) (k := 7) (ws := [.ref 633, .int x1, .int x2]) kX11_fits_ok (by decide +kernel) (by decide +kernel) (by decide) (Two.mk rfl (Two.mk ⟨x1, rfl, i32_any x1⟩ (Two.mk ⟨x2, rfl, i32_any x2⟩ trivial))) V1 E2
  have G1 := hS.2.frm hS.1.six.1.1.sh F1 (by decide +kernel)
  exact ⟨r1, r2, M1, M2, E1, E2, V1, S2, G1.frm V1.1.sh F2 (by decide +kernel)⟩
set_option maxRecDepth 200000 in
theorem pg_32 (hS : SVG M) : ∃ r1 M1 M2, Ev none 999 123 0 [some (.ref 0), some (.int x1)] [] M (some (.int r1)) M1 0 0 ∧ Ev none 999 246 0 [some (.ref 633), some (.int x1), none] [] M1 (some (.int r1)) M2 0 0 ∧ INV M1 ∧ SVG M2 := by
  obtain ⟨r1, M1, M2, E1, E2, V1, S2⟩ := pj_32 (x1 := x1) hS.1
  obtain ⟨_, F1, _⟩ := inv_d (c := kX10_image) (k := 2) (ws := [.ref 0, .int x1]) kX10_image_ok (by decide +kernel) (by decide +kernel) (by decide) (Two.mk rfl (Two.mk ⟨x1, rfl, i32_any x1⟩ trivial)) hS.1.six.1 E1
  obtain ⟨_, F2, _⟩ := inv_d (c := kX11_image) (k := 3) (ws := [.ref 633, .int x1]) kX11_image_ok (by decide +kernel) (by decide +kernel) (by decide) (Two.mk rfl (Two.mk ⟨x1, rfl, i32_any x1⟩ trivial)) V1 E2
  have G1 := hS.2.frm hS.1.six.1.1.sh F1 (by decide +kernel)
  obtain ⟨z, y, l, lb, lt, T, P, PI, hB, hN, hC, hD, hR, hI⟩ := hS.1
  have R1 : RST T P M1 := hR.frm ⟨V1.1.sh, hB.2.1.frm hB.1.1.sh F1 (by decide +kernel)⟩ F1 (by decide +kernel)
  have hP : okG P := G1.pp R1 hC.ok.1
  refine ⟨r1, M1, M2, E1, E2, V1, S2, ?_⟩
  have h0 := R1.w0 0 (by decide) 0
  rcases rim_0 R1.1 E2 with ⟨_, _, r2⟩ | ⟨a1, H⟩
  · exact G1.tr (fun j => by rw [r2, rN_wF]) (fun j => by rw [r2, rN_wF])
  · rw [g140_R, Classical.not_not] at a1
    obtain ⟨m, m3, hk⟩ := img_rng a1
    obtain ⟨_, q2, q3, q4, _⟩ := rim_l m3 hk M1 2314 0 0 _ h0 rfl rfl (fun j hj => absurd hj (Nat.not_lt_zero _)) (fun j _ => rN_wF) (fun j => rN_wF) H
    refine ⟨og_mk5 S2 q2 hP, fun k k3 => ?_⟩
    by_cases q : k = m
    · rw [q]
      exact hP.eq hC.ok.1 (fun i hi => (tr_lt hi).trans (q3 i hi))
    · have e : trR (fun i => rN M2 636 (2314 * k + i)) = trR (fun i => rN M1 636 (2314 * k + i)) := funext (fun i => by
        unfold trR
        split
        · exact q4 _ (by omega)
        · rfl)
      rw [e]
      exact G1.2 k k3
set_option maxRecDepth 200000 in
theorem pg_33 (hS : SVG M) : ∃ r1 M1 M2, Ev none 999 124 0 [some (.ref 0), some (.int x1)] [] M (some (.int r1)) M1 0 0 ∧ Ev none 999 247 0 [some (.ref 633), some (.int x1), none] [] M1 (some (.int r1)) M2 0 0 ∧ INV M1 ∧ SVG M2 := by
  obtain ⟨r1, M1, M2, E1, E2, V1, S2⟩ := pj_33 (x1 := x1) hS.1
  obtain ⟨_, F1, _⟩ := inv_d (c := kX10_restore) (k := 2) (ws := [.ref 0, .int x1]) kX10_restore_ok (by decide +kernel) (by decide +kernel) (by decide) (Two.mk rfl (Two.mk ⟨x1, rfl, i32_any x1⟩ trivial)) hS.1.six.1 E1
  obtain ⟨_, F2, _⟩ := inv_d (c := kX11_restore) (k := 3) (ws := [.ref 633, .int x1]) kX11_restore_ok (by decide +kernel) (by decide +kernel) (by decide) (Two.mk rfl (Two.mk ⟨x1, rfl, i32_any x1⟩ trivial)) V1 E2
  have G1 := hS.2.frm hS.1.six.1.1.sh F1 (by decide +kernel)
  obtain ⟨z, y, l, lb, lt, T, P, PI, hB, hN, hC, hD, hR, hI⟩ := hS.1
  have R1 : RST T P M1 := hR.frm ⟨V1.1.sh, hB.2.1.frm hB.1.1.sh F1 (by decide +kernel)⟩ F1 (by decide +kernel)
  have hP : okG P := G1.pp R1 hC.ok.1
  refine ⟨r1, M1, M2, E1, E2, V1, S2, ?_⟩
  have i2 := og_row6 V1.1.sh F2 (by decide +kernel)
  have h0 := R1.w0 0 (by decide) 0
  rcases rre_0 R1.1 E2 with ⟨_, _, r2⟩ | ⟨_, _, _, _, r2⟩ | ⟨a1, _, _, H⟩
  · exact G1.tr (fun j => by rw [r2, rN_wF]) (fun j => by rw [r2, rN_wF])
  · exact G1.tr (fun j => by rw [r2, rN_wF]) (fun j => by rw [r2, rN_wF])
  · rw [g140_R, Classical.not_not] at a1
    obtain ⟨m, m3, hk⟩ := img_rng a1
    obtain ⟨_, q2⟩ := rre_l (Q := trR (fun i => rN M1 636 (2314 * m + i))) m3 hk 2314 0 0 P _ h0 (fun j hj => by rw [rN_wF]; exact (tr_lt (f := fun i => rN M1 636 (2314 * m + i)) hj).symm) rfl rfl (fun j hj => absurd hj (Nat.not_lt_zero _)) H
    exact OG.mk S2 q2 (G1.2 m m3) G1 i2
set_option maxRecDepth 200000 in
theorem pg_34 (hS : SVG M) : ∃ r1 M1 M2, Ev none 999 125 0 [some (.ref 0), some (.int x1)] [] M (some (.int r1)) M1 0 0 ∧ Ev none 999 248 0 [some (.ref 633), some (.int x1), none, none] [] M1 (some (.int r1)) M2 0 0 ∧ INV M1 ∧ SVG M2 := by
  obtain ⟨r1, M1, M2, E1, E2, V1, S2⟩ := pj_34 (x1 := x1) hS.1
  obtain ⟨_, F1, _⟩ := inv_d (c := kX10_count) (k := 2) (ws := [.ref 0, .int x1]) kX10_count_ok (by decide +kernel) (by decide +kernel) (by decide) (Two.mk rfl (Two.mk ⟨x1, rfl, i32_any x1⟩ trivial)) hS.1.six.1 E1
  obtain ⟨_, F2, _⟩ := inv_d (c := kX11_count) (k := 4) (ws := [.ref 633, .int x1]) kX11_count_ok (by decide +kernel) (by decide +kernel) (by decide) (Two.mk rfl (Two.mk ⟨x1, rfl, i32_any x1⟩ trivial)) V1 E2
  have G1 := hS.2.frm hS.1.six.1.1.sh F1 (by decide +kernel)
  exact ⟨r1, M1, M2, E1, E2, V1, S2, G1.frm V1.1.sh F2 (by decide +kernel)⟩
set_option maxRecDepth 200000 in
theorem pg_14 (hS : SVG M) : ∃ r M2, Ev none 999 214 0 [some (.ref 633), some (.int x1), some (.int x2)] [] M (some (.int r)) M2 0 0 ∧ SVG M2 := by
  obtain ⟨r, M2, E2, S2⟩ := pj_14 (x1 := x1) (x2 := x2) hS.1
  obtain ⟨_, F2, _⟩ := inv_d (c := kX11_cell) (k := 3) (ws := [.ref 633, .int x1, .int x2]) kX11_cell_ok (by decide +kernel) (by decide +kernel) (by decide) (Two.mk rfl (Two.mk ⟨x1, rfl, i32_any x1⟩ (Two.mk ⟨x2, rfl, i32_any x2⟩ trivial))) hS.1.six.1 E2
  exact ⟨r, M2, E2, S2, hS.2.frm hS.1.six.1.1.sh F2 (by decide +kernel)⟩
end OGKEEP
