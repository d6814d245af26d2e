/-! THE CELLS told: the reference, and both beside each other -/
section CELB
variable {e : Nat} {T : TS} {P : PK} {PI : Nat → PK} {M M1 M' : Mem} {v : Option Value} {c k x1 x2 : Int32}
theorem rcell_ok (hR : RST T P M) (hw : wh4 P) (H : Ev none e 214 0 [some (.ref 633), some (.int c), some (.int k)] [] M v M' 0 0) : ((¬ (inC P c ∧ inX k 0 8) ∧ zI M' 633 0 = 1) ∨ ((inC P c ∧ inX k 0 8) ∧ v = some (.int (celP (T 0) P c k)) ∧ zI M' 633 0 = 0)) ∧ RST T P M' := by
  have t7 : (7 : Int32).toInt = 7 := rfl
  have thr : ∀ (e1 : Nat) (v1 : Option Value) (M1 : Mem), Ev none e1 135 0 [some (.ref 633), some (.int 1)] [] M v1 M1 0 0 → Ev none e 214 27 [some (.ref 633), some (.int c), some (.int k)] (v1.toList ++ []) M1 v M' 0 0 → zI M' 633 0 = 1 ∧ RST T P M' := fun e1 v1 M1 H1 H => by
    obtain ⟨p1, q1⟩ := g_135 hR.1 H1
    have eA : A_135 M 1 = 1 := by
      unfold A_135
      rw [if_neg (by decide)]
    have eX : X_135 M 1 = wF M 633 0 1 := by
      unfold X_135
      rw [if_neg (by decide)]
    rw [eA] at p1
    rw [eX] at q1
    rw [p1, q1] at H
    have hR1 := hR.w0 0 (by decide) 1
    rcases rce_27 hR1.1 H with ⟨a, _⟩ | ⟨a, _⟩ | ⟨a, _⟩ | ⟨a, _⟩ | ⟨a, _⟩ | ⟨_, r1, r2⟩
    · exact absurd a (by decide)
    · exact absurd a (by decide)
    · exact absurd a (by decide)
    · exact absurd a (by decide)
    · exact absurd a (by decide)
    · rw [r2]
      exact ⟨fI_wF_eq hR.1.1 qa_633 qi_61_0, hR1⟩
  rcases rce_0 hR.1 H with ⟨a1, e1, v1, M1, _, H1, H⟩ | ⟨_, a2, e1, v1, M1, _, H1, H⟩ | ⟨a1, a2, e1, v1, M1, _, H1, H⟩
  · rw [g145_ok hR hw] at a1
    obtain ⟨r2, r3⟩ := thr e1 v1 M1 H1 H
    exact ⟨Or.inl ⟨fun q => a1 q.1, r2⟩, r3⟩
  · rw [g140_R] at a2
    obtain ⟨r2, r3⟩ := thr e1 v1 M1 H1 H
    exact ⟨Or.inl ⟨fun q => a2 q.2, r2⟩, r3⟩
  · rw [g145_ok hR hw, Classical.not_not] at a1
    rw [g140_R, Classical.not_not] at a2
    obtain ⟨p1, q1⟩ := g_135 hR.1 H1
    have eA : A_135 M 0 = 0 := by
      unfold A_135
      rw [if_pos rfl]
    have eX : X_135 M 0 = wF M 633 0 0 := by
      unfold X_135
      rw [if_pos rfl]
    rw [eA] at p1
    rw [eX] at q1
    rw [p1, q1] at H
    have hR1 := hR.w0 0 (by decide) 0
    have hz : zI (wF M 633 0 0) 633 0 = 0 := fI_wF_eq hR.1.1 qa_633 qi_61_0
    have k0 : 0 ≤ k.toInt := a2.1
    have k8 : k.toInt ≤ 8 := a2.2
    unfold celP
    rcases rce_27 hR1.1 H with ⟨_, b1, b2, b3, r1, r2⟩ | ⟨_, b1, b2, b3, r1, r2⟩ | ⟨_, b1, b2, b3, r1, r2⟩ | ⟨_, b1, b2, b3, r1, r2⟩ | ⟨_, b1, r1, r2⟩ | ⟨a, _⟩
    · have b1 := Int32.le_iff_toInt_le.mp b1
      rw [g150_ok hR1 hw a1, bI_0] at b3
      rw [r2]
      refine ⟨Or.inr ⟨⟨a1, a2⟩, ?_, hz⟩, hR1⟩
      rw [r1, if_neg (by omega), if_pos b2, b3]
      rfl
    · have b1 := Int32.le_iff_toInt_le.mp b1
      rw [g150_ok hR1 hw a1, bI_0, Bool.not_eq_false] at b3
      rw [r2]
      refine ⟨Or.inr ⟨⟨a1, a2⟩, ?_, hz⟩, hR1⟩
      rw [r1, if_neg (by omega), if_pos b2, b3]
      rfl
    · have b1 := Int32.le_iff_toInt_le.mp b1
      rw [g151_ok hR1 hw a1, bI_0] at b3
      rw [r2]
      refine ⟨Or.inr ⟨⟨a1, a2⟩, ?_, hz⟩, hR1⟩
      rw [r1, if_neg (by omega), if_neg b2, b3]
      rfl
    · have b1 := Int32.le_iff_toInt_le.mp b1
      rw [g151_ok hR1 hw a1, bI_0, Bool.not_eq_false] at b3
      rw [r2]
      refine ⟨Or.inr ⟨⟨a1, a2⟩, ?_, hz⟩, hR1⟩
      rw [r1, if_neg (by omega), if_neg b2, b3]
      rfl
    · have b1 : ¬ (7 : Int32).toInt ≤ k.toInt := fun q => b1 (Int32.le_iff_toInt_le.mpr q)
      rw [r2]
      refine ⟨Or.inr ⟨⟨a1, a2⟩, ?_, hz⟩, hR1⟩
      rw [r1, if_pos (by omega), r_cell hR1 hw a1 (fn := k.toInt.toNat) (by omega) (by omega)]
    · exact absurd rfl a
def SVP (T : TS) (P : PK) (M : Mem) : Prop := SV6 M ∧ ∃ PI, S7 T P PI M
theorem SV7.pp (h : SV7 M) : ∃ T P, SVP T P M := by
  have h6 := h.six
  obtain ⟨z, y, l, lb, lt, T, P, PI, hB, hN, h7⟩ := h
  exact ⟨T, P, h6, PI, h7⟩
theorem SVP.sv (h : SVP T P M) : SV7 M := by
  obtain ⟨h6, PI, h7⟩ := h
  exact SV7.mk h6 h7
theorem SVP.app (h : SVP T P M) (e : AE) : SVP T P (M ++ [e]) := by
  obtain ⟨h6, PI, h7⟩ := h
  have h8 := h6.app e
  refine ⟨h8, PI, h7.far ⟨h8.1.1.sh, h8.2.1⟩ (FZ.eq (fun a ha => ?_) (fun _ _ q => q) (fun _ q => q) (fun _ q => q))⟩
  obtain ⟨g, hg⟩ : ∃ g, gNth sT a = some g := by
    rw [nth_eq]
    exact ⟨_, List.getElem?_eq_getElem (by rw [st_len]; omega)⟩
  have hq := List.all_eq_true.mp st_gr a (List.mem_range.mpr (by omega))
  rw [hg] at hq
  have hq : (gNth sG g).isSome = true := hq
  obtain ⟨ct, hct⟩ := Option.isSome_iff_exists.mp hq
  obtain ⟨x, h1, _⟩ := h6.1.1.at hg hct
  rw [nth_app h1, h1]
theorem SVP.out (h : SVP T P M) : ∃ l : List Int64, gNth M 663 = some (.inl (2, .inr (.inl l))) ∧ l.length = 1 ∧ ∀ z : Int64, SVP T P (gPut M 663 (.inl (2, .inr (.inl (gPut l 0 z))))) := by
  obtain ⟨h6, PI, h7⟩ := h
  obtain ⟨l, l1, l2, l3⟩ := h6.out
  refine ⟨l, l1, l2, fun z9 => ?_⟩
  have h8 := l3 z9
  refine ⟨h8, PI, h7.far ⟨h8.1.1.sh, h8.2.1⟩ (FZ.eq (fun a ha => ?_) (fun _ _ q => q) (fun _ q => q) (fun _ q => q))⟩
  rw [nth_put, if_neg (fun q => by omega)]
theorem SVP.inv (h : SVP T P M) : INV M := h.1.1
theorem SVP.cst (h : SVP T P M) : ∃ PI, CST T P PI M := by
  obtain ⟨_, PI, h7⟩ := h
  exact ⟨PI, h7.1⟩
noncomputable def outB (md : Md) : Bool := match gNth sT 663 with
  | some g => !mdIn md (1000 + g) 0
  | none => true
theorem out_kp {md : Md} (hM : ∃ t x, gNth M 663 = some (.inl (t, x))) (hF : Frm sT md M M') (hB : outB md = true) : gNth M' 663 = gNth M 663 := by
  obtain ⟨t, x, hM⟩ := hM
  obtain ⟨x', h1, h2⟩ := hF.2.2 663 t x hM
  rw [h1, hM, h2 (fun g hg => by
    unfold outB at hB
    rw [hg] at hB
    exact md_no hB)]
set_option maxRecDepth 200000 in
theorem pj_14p (hS : SVP T P M) : ∃ r M2, Ev none 999 214 0 [some (.ref 633), some (.int x1), some (.int x2)] [] M (some (.int r)) M2 0 0 ∧ SV7 M2 ∧ gNth M2 663 = gNth M 663 ∧ ((¬ (inC P x1 ∧ inX x2 0 8) ∧ zI M2 633 0 = 1) ∨ ((inC P x1 ∧ inX x2 0 8) ∧ r = celP (T 0) P x1 x2 ∧ zI M2 633 0 = 0)) := by
  obtain ⟨lo, lo1, _⟩ := hS.out
  obtain ⟨⟨a1, a2, z, y, l, lb, lt, a3, a4, a5, a6, a7, a8, hN, a9, a10⟩, PI, hC, hD, hR, hI⟩ := hS
  have hB : B6 z z y y l lb lt M := ⟨a1, a2, a3, a4, a5, a6, a7, a8, a9, a10⟩
  obtain ⟨v2, M2, y2, E2, s2, F2, B2, f2, K2, D2⟩ := rel_r7 (cn := kX11_cell) (k := 3) (ws := [.ref 633, .int x1, .int x2]) false false kX11_cell_ok (by decide +kernel) (by decide +kernel) (by decide) (Two.mk rfl (Two.mk ⟨x1, rfl, i32_any x1⟩ (Two.mk ⟨x2, rfl, i32_any x2⟩ trivial))) hB
  cases f2 rfl
  obtain ⟨h1, R2⟩ := rcell_ok hR hC.ok.1.1 E2
  obtain ⟨r2, rfl⟩ := ret_i (by decide) s2
  refine ⟨r2, M2, E2, ⟨z, y, l, lb, lt, T, P, PI, B2, hN, K2 hC, D2 hD, R2, hI.frm hB.1.1.sh F2 (by decide +kernel)⟩, out_kp ⟨_, _, lo1⟩ F2 (by decide +kernel), ?_⟩
  rcases h1 with h1 | ⟨q1, q2, q3⟩
  · exact Or.inl h1
  · cases q2
    exact Or.inr ⟨q1, rfl, q3⟩
/-- whether the class knows the CELL -/
theorem isc_in (hC : CST T P PI M) (H : Ev none e 127 0 [some (.ref 0), some (.int c)] [] M (some (.int 1)) M' 0 0) : inC P c := by
  obtain ⟨r1, _⟩ := isc_0 hC.sq hC.ld H
  by_cases q : inC P c
  · exact q
  · have h := (isc_ok hC.lan hC.ok.1.1).mpr q
    rw [h] at r1
    cases r1
theorem isc_out (hC : CST T P PI M) (H : Ev none e 127 0 [some (.ref 0), some (.int c)] [] M (some (.int 0)) M' 0 0) : ¬ inC P c := by
  obtain ⟨r1, _⟩ := isc_0 hC.sq hC.ld H
  refine (isc_ok hC.lan hC.ok.1.1).mp ?_
  have h : (some (Value.int 0)) = some (Value.int (G_126 M c 0 (G_6 M 8 - 1))) := r1
  injection h with h
  injection h with h
  exact h.symm
end CELB
