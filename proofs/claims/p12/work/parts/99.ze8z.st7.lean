/-! THE WHOLE STATE: at the start, and beside what else is there -/
def P00 : PK := fun j => if j = 0 ∨ j = 1 then 4 else 0
noncomputable def T00 : TS := fun _ => (([], 0, []), [])
def fF (a _k : Nat) : Prop := 663 ≤ a
def fW (a : Nat) : Prop := 663 ≤ a
section ST7
variable {z w y q x1 x2 : Int32} {l lb lt : List Int32} {T T' : TS} {P Q : PK} {PI : Nat → PK} {M M1 M2 M' : Mem} {a k n j : Nat}
theorem SV7.mk (h : SV6 M) (h7 : S7 T P PI M) : SV7 M := by
  obtain ⟨a1, a2, z, y, l, lb, lt, a3, a4, a5, a6, a7, a8, hN, a9, a10⟩ := h
  exact ⟨z, y, l, lb, lt, T, P, PI, ⟨a1, a2, a3, a4, a5, a6, a7, a8, a9, a10⟩, hN, h7⟩
theorem CST.far (h : CST T P PI M) (hS : SQ M') (hF : FZ fF fW fW M M') : CST T P PI M' := by
  refine h.scr hS hF ⟨by unfold fF; omega, by unfold fF; omega, by unfold fF; omega⟩ (fun L hL _ => ⟨fun a k q1 q2 => ?_, fun a q1 q2 => ?_⟩) (fun t ht => ⟨fun k => ?_, fun k k1 k8 => ?_⟩) ⟨by unfold fW; omega, by unfold fW; omega, by unfold fW; omega⟩ (fun L hL _ => ?_) (fun L hL => ⟨fun k hk => (hF.on ?_).trans ((h.2.2.2.2.2.1 L hL).1 k hk), (h.2.2.2.2.2.1 L hL).2.on (fun j => hF.on ?_)⟩) (h.2.2.2.2.1.fz hF (by unfold fF; omega) (by unfold fF; omega) (fun a _ _ => by unfold fW; omega)) (by unfold fW; omega)
  · have := ld_cases hL
    unfold fF
    omega
  · have := ld_cases hL
    unfold fW
    omega
  · have := tx_cases ht
    unfold fF
    omega
  · have := tx_cases ht
    unfold fW
    omega
  all_goals
    have := ld_cases hL
    unfold fW
    omega
theorem S7.far (h : S7 T P PI M) (hS : SQ M') (hF : FZ fF fW fW M M') : S7 T P PI M' := by
  obtain ⟨h1, h2, h3, h4⟩ := h
  exact ⟨h1.far hS hF, h2.same (hF.fr (by unfold fF; omega)) (hF.fr (by unfold fF; omega)) (fun j => hF.on (by unfold fW; omega)), h3.fz hS hF (fun k _ _ => by unfold fF; omega) (fun a ha => by unfold fW; omega), h4.fz hF ⟨by unfold fW; omega, by unfold fW; omega⟩⟩
theorem FZ.eq {F : Nat → Nat → Prop} {W O : Nat → Prop} (h : ∀ a, a < 663 → gNth M' a = gNth M a) (hf : ∀ a k, 663 ≤ a → F a k) (hw : ∀ a, 663 ≤ a → W a) (ho : ∀ a, 663 ≤ a → O a) : FZ F W O M M' := by
  refine ⟨fun a k q => ?_, fun b q => ?_, fun b q => ?_⟩
  · have e := h a (by
      rcases Nat.lt_or_ge a 663 with r | r
      · exact r
      · exact absurd (hf a k r) q)
    unfold fV
    rw [e]
  · have e := h b (by
      rcases Nat.lt_or_ge b 663 with r | r
      · exact r
      · exact absurd (hw b r) q)
    unfold zrw
    rw [e]
  · have e := h b (by
      rcases Nat.lt_or_ge b 663 with r | r
      · exact r
      · exact absurd (ho b r) q)
    unfold roL
    rw [e]
set_option maxRecDepth 200000 in
theorem st_len : sT.length = 664 := by decide +kernel
theorem st_gr : (List.range 664).all (fun a => match gNth sT a with
  | some g => (gNth sG g).isSome
  | none => false) = true := by decide +kernel
theorem SV7.app (h : SV7 M) (e : AE) : SV7 (M ++ [e]) := by
  have h6 := h.six.app e
  obtain ⟨z, y, l, lb, lt, T, P, PI, hB, hN, h7⟩ := h
  refine SV7.mk h6 (h7.far ⟨h6.1.1.sh, h6.2.1⟩ (FZ.eq (fun a ha => ?_) (fun _ _ q => q) (fun _ q => q) (fun _ q => q)))
  obtain ⟨g, hg⟩ : ∃ g, gNth sT a = some g := by
    rw [nth_eq]
    exact ⟨_, List.getElem?_eq_getElem (by rw [st_len]; omega)⟩
  have hq := List.all_eq_true.mp st_gr a (List.mem_range.mpr (by omega))
  rw [hg] at hq
  have hq : (gNth sG g).isSome = true := hq
  obtain ⟨ct, hct⟩ := Option.isSome_iff_exists.mp hq
  obtain ⟨x, h1, _⟩ := hB.1.1.at hg hct
  rw [nth_app h1, h1]
theorem SV7.out (h : SV7 M) : ∃ l : List Int64, gNth M 663 = some (.inl (2, .inr (.inl l))) ∧ l.length = 1 ∧ ∀ z : Int64, SV7 (gPut M 663 (.inl (2, .inr (.inl (gPut l 0 z))))) := by
  obtain ⟨l, l1, l2, l3⟩ := h.six.out
  refine ⟨l, l1, l2, fun z9 => ?_⟩
  have h6 := l3 z9
  obtain ⟨z, y, l', lb, lt, T, P, PI, hB, hN, h7⟩ := h
  refine SV7.mk h6 (h7.far ⟨h6.1.1.sh, h6.2.1⟩ (FZ.eq (fun a ha => ?_) (fun _ _ q => q) (fun _ q => q) (fun _ q => q)))
  rw [nth_put, if_neg (fun q => by omega)]
set_option maxRecDepth 200000 in
theorem pj_14 (hS : SV7 M) : ∃ r M2, Ev none 999 214 0 [some (.ref 633), some (.int x1), some (.int x2)] [] M (some (.int r)) M2 0 0 ∧ SV7 M2 := by
  obtain ⟨z, y, l, lb, lt, T, P, PI, hB, hN, hC, hD, hR, hI⟩ := hS
  obtain ⟨v2, M2, y2, E2, s2, F2, B2, f2, K2, D2⟩ := rel_r7 (cn := kX11_cell) (k := 3) (ws := [.ref 633, .int x1, .int x2]) false false kX11_cell_ok (by decide +kernel) (by decide +kernel) (by decide) (Two.mk rfl (Two.mk ⟨x1, rfl, i32_any x1⟩ (Two.mk ⟨x2, rfl, i32_any x2⟩ trivial))) hB
  cases f2 rfl
  have S2 : SQ M2 := ⟨B2.1.1.sh, B2.2.1⟩
  obtain ⟨r2, rfl⟩ := ret_i (by decide) s2
  exact ⟨r2, M2, E2, ⟨z, y, l, lb, lt, T, P, PI, B2, hN, K2 hC, D2 hD, hR.frm S2 F2 (by decide +kernel), hI.frm hB.1.1.sh F2 (by decide +kernel)⟩⟩
/-! the start -/
theorem zr_rN {kd : Nat} (h : zrB a kd n = true) (hj : n ≤ j) : rN mem0 a j = 0 := by
  obtain ⟨l, e, h2⟩ := zrB_V h
  unfold rN zrw
  rw [e]
  dsimp only
  cases hx : gNth l j with
  | none => rfl
  | some x => exact h2 j x hx hj
set_option maxRecDepth 200000 in
theorem s0_r : ([9, 10, 11, 12, 13, 14, 15, 16].all (fun a => zrB a 1 0) && (zrB 340 3 0 && (zrB 638 3 0 && (zrB 639 1 0 && zrB 635 1 2)))) = true := by decide +kernel
set_option maxRecDepth 200000 in
theorem s0_z : ([(8, 0, 4), (8, 1, 4), (8, 11, 0), (8, 13, 0), (8, 15, 0), (8, 16, 0), (8, 17, 0), (8, 18, 0), (8, 19, 0), (105, 3, 0), (105, 4, 0), (633, 28, 40), (633, 29, 50), (633, 30, 10)] : List (Nat × Nat × Int32)).all (fun q => decide (zI mem0 q.1 q.2.1 = q.2.2)) = true := by decide +kernel
set_option maxRecDepth 200000 in
theorem s0_t : ([110, 138, 147, 156, 165, 174, 183] : List Nat).all (fun t => ([(8, 0), (9, 0), (10, 40), (11, 50), (12, 10), (13, 3)] : List (Nat × Int32)).all (fun q => decide (zI mem0 t q.1 = q.2))) = true := by decide +kernel
set_option maxRecDepth 200000 in
theorem s0_f : (Nat.beq (fR mem0 0 2) 8 && (Nat.beq (fR mem0 0 6) 243 && (Nat.beq (fR mem0 104 2) 110 && Nat.beq (fR mem0 104 3) 119))) = true := by decide +kernel
set_option maxRecDepth 200000 in
theorem s0_o : ((List.range 7).all (fun m => Nat.beq (oN mem0 129 m) (130 + m)) && ((List.range 3).all (fun m => Nat.beq (oN mem0 339 m) (imgA m)) && (List.range 6).all (fun m => Nat.beq (oN mem0 109 m) (138 + 9 * m)))) = true := by decide +kernel
set_option maxRecDepth 200000 in
theorem s0_l : fxA.all (fun L => (List.range 24).all (fun k => Nat.beq (oN mem0 (L + 10) k) (L + 12 + k)) && (List.range 60).all (fun k => Nat.beq (oN mem0 (L + 11) k) (L + 36 + k))) = true := by decide +kernel
set_option maxRecDepth 200000 in
theorem s0_w : decide (rN mem0 635 0 = 4) = true ∧ decide (rN mem0 635 1 = 4) = true := by constructor <;> decide +kernel
theorem p00_0 (h : 2 ≤ j) : P00 j = 0 := if_neg (by omega)
theorem s0_zi {x : Int32} (h : (a, k, x) ∈ ([(8, 0, 4), (8, 1, 4), (8, 11, 0), (8, 13, 0), (8, 15, 0), (8, 16, 0), (8, 17, 0), (8, 18, 0), (8, 19, 0), (105, 3, 0), (105, 4, 0), (633, 28, 40), (633, 29, 50), (633, 30, 10)] : List (Nat × Nat × Int32))) : zI mem0 a k = x := of_decide_eq_true (List.all_eq_true.mp s0_z _ h)
theorem s0_tx {t : Nat} (h : t ∈ ([110, 138, 147, 156, 165, 174, 183] : List Nat)) : TXT mem0 t (([], 0, []), []) := by
  have g := List.all_eq_true.mp s0_t _ h
  have f : ∀ k x, (k, x) ∈ ([(8, 0), (9, 0), (10, 40), (11, 50), (12, 10), (13, 3)] : List (Nat × Int32)) → zI mem0 t k = x := fun k x hk => of_decide_eq_true (List.all_eq_true.mp g _ hk)
  refine ⟨⟨by rw [f 8 0 (by simp)]; rfl, Nat.zero_le _, fun j l hj => by cases hj⟩, ⟨by rw [f 9 0 (by simp)]; rfl, Nat.zero_le _, fun j c hj => by cases hj⟩, f 10 40 (by simp), f 11 50 (by simp), f 12 10 (by simp), f 13 3 (by simp)⟩
theorem lw_00 : LW (([], 0, []), []) := fun l hl => by cases hl
theorem S70 : S7 T00 P00 (fun _ => P00) mem0 := by
  obtain ⟨rc, hr⟩ := and_t s0_r
  obtain ⟨r340, hr⟩ := and_t hr
  obtain ⟨r638, hr⟩ := and_t hr
  obtain ⟨r639, r635⟩ := and_t hr
  obtain ⟨f1, hf⟩ := and_t s0_f
  obtain ⟨f2, hf⟩ := and_t hf
  obtain ⟨f3, f4⟩ := and_t hf
  obtain ⟨o1, ho⟩ := and_t s0_o
  obtain ⟨o2, o3⟩ := and_t ho
  have S : SQ mem0 := ⟨tm0.sh, FX0⟩
  have t0 : (0 : Int32).toInt = 0 := rfl
  have t4 : (4 : Int32).toInt = 4 := rfl
  have q0 : P00 0 = 4 := rfl
  have q1 : P00 1 = 4 := rfl
  have e109 : ∀ m, m < 6 → oN mem0 109 m = 138 + 9 * m := fun m hm => Nat.eq_of_beq_eq_true (List.all_eq_true.mp o3 m (List.mem_range.mpr hm))
  have hL : ∀ L, gNth sT L = some 8 → (∀ k, k < 24 → oN mem0 (L + 10) k = L + 12 + k) ∧ ∀ k, k < 60 → oN mem0 (L + 11) k = L + 36 + k := fun L h8 => by
    have hm : L ∈ fxA := by
      have := ld_cases h8
      unfold fxA
      simp only [List.mem_cons, List.not_mem_nil, or_false]
      exact this
    obtain ⟨c1, c2⟩ := and_t (List.all_eq_true.mp s0_l L hm)
    exact ⟨fun k hk => Nat.eq_of_beq_eq_true (List.all_eq_true.mp c1 k (List.mem_range.mpr hk)), fun k hk => Nat.eq_of_beq_eq_true (List.all_eq_true.mp c2 k (List.mem_range.mpr hk))⟩
  have row : ∀ a, 9 ≤ a → a ≤ 16 → ∀ j, rN mem0 a j = 0 := fun a h1 h2 j => zr_rN (kd := 1) (n := 0) (List.all_eq_true.mp rc a (by simp only [List.mem_cons, List.not_mem_nil, or_false]; omega)) (Nat.zero_le _)
  have okC : ∀ c, okC1 (60 * (P00 518).toInt.toNat) P00 c := fun c => by
    have e : ∀ f, cE P00 f c = 0 := fun f => p00_0 (by unfold cX; omega)
    unfold okC1
    rw [e 0, e 2, e 3, e 4, e 5, e 6, p00_0 (show 2 ≤ 518 by decide)]
    decide
  have ok : okA P00 := by
    refine ⟨⟨⟨by decide, by decide, by decide, by decide⟩, ⟨by decide, by decide, fun d hd => ?_⟩, by decide, by decide, fun k hk => ?_⟩, ⟨by decide, by decide, fun k hk => ?_⟩, ⟨by decide, by decide⟩, fun c _ => okC c⟩
    · rw [p00_0 (by decide)] at hd
      exact absurd hd (Nat.not_lt_zero _)
    · rw [p00_0 (by decide)] at hk
      exact absurd hk (Nat.not_lt_zero _)
    · rw [p00_0 (by decide)] at hk
      exact absurd hk (Nat.not_lt_zero _)
  have hA : LAN 8 P00 mem0 := by
    refine ⟨⟨s0_zi (x := 4) (by simp), s0_zi (x := 4) (by simp), ⟨s0_zi (x := 0) (by simp), fun d hd => ?_⟩, s0_zi (x := 0) (by simp), fun k hk => ?_⟩, ⟨s0_zi (x := 0) (by simp), s0_zi (x := 0) (by simp), s0_zi (x := 0) (by simp), s0_zi (x := 0) (by simp)⟩, fun k f hk hf => ?_, ⟨s0_zi (x := 0) (by simp), fun k hk => ?_⟩, fun c hc => ?_⟩
    · rw [p00_0 (by decide)] at hd
      exact absurd hd (Nat.not_lt_zero _)
    · rw [p00_0 (by decide)] at hk
      exact absurd hk (Nat.not_lt_zero _)
    · rw [row _ (by omega) (by omega), p00_0 (by omega)]
    · rw [p00_0 (by decide)] at hk
      exact absurd hk (Nat.not_lt_zero _)
    · show rN mem0 16 _ = _
      rw [row 16 (by decide) (by decide), p00_0 (by decide)]
      rfl
  refine ⟨⟨S, ⟨Nat.eq_of_beq_eq_true f1, Nat.eq_of_beq_eq_true f2, fun k hk => Nat.eq_of_beq_eq_true (List.all_eq_true.mp o2 k (List.mem_range.mpr hk))⟩, ⟨⟨?_, lw_00⟩, fun h hh => ⟨?_, lw_00⟩⟩, fun m hm => Nat.eq_of_beq_eq_true (List.all_eq_true.mp o1 m (List.mem_range.mpr hm)), fun i hi => ?_, fun L h8 => ⟨(hL L h8).1, fun j k hj hk q => ?_, fun k hk => ?_⟩, ⟨ok, hA⟩, fun k hk hr => ?_⟩, fun i j hi hj q => ?_, ⟨S, fun i hi => ?_, ⟨s0_zi (x := 40) (by simp), s0_zi (x := 50) (by simp), s0_zi (x := 10) (by simp)⟩, fun t ht => ⟨⟨⟨⟨?_, Nat.zero_le _, fun j l hj => by cases hj⟩, fun j c _ hj => by cases hj⟩, lw_00⟩, Nat.zero_le _⟩⟩, fun k hk hr => ?_⟩
  · rw [Nat.eq_of_beq_eq_true f3]
    exact s0_tx (by simp)
  · rw [e109 h hh]
    exact s0_tx (by simp only [List.mem_cons, List.not_mem_nil, or_false]; omega)
  · rw [s0_zi (a := 105) (k := 3) (x := 0) (by simp)] at hi
    rw [t0] at hi
    simp at hi
  · rw [(hL L h8).2 j hj, (hL L h8).2 k hk] at q
    omega
  · rw [(hL L h8).2 k hk]
    omega
  · exact absurd (zr_rN r340 (Nat.zero_le _)) hr
  · have e : ∀ i, i < 8 → txr mem0 i = if i = 0 then 110 else if i = 7 then 119 else 138 + 9 * (i - 1) := fun i hi => by
      unfold txr
      by_cases h0 : i = 0
      · rw [if_pos h0, if_pos h0]
        exact Nat.eq_of_beq_eq_true f3
      · rw [if_neg h0, if_neg h0]
        by_cases h7 : i = 7
        · rw [if_pos h7, if_pos h7]
          exact Nat.eq_of_beq_eq_true f4
        · rw [if_neg h7, if_neg h7]
          exact e109 _ (by omega)
    rw [e i hi, e j hj] at q
    split at q <;> split at q <;> (try split at q) <;> (try split at q) <;> omega
  · rcases Nat.lt_or_ge i 2 with r | r
    · have hi2 : i = 0 ∨ i = 1 := by omega
      rcases hi2 with rfl | rfl
      · exact of_decide_eq_true s0_w.1
      · exact of_decide_eq_true s0_w.2
    · rw [zr_rN r635 r, p00_0 r]
  · rw [zr_rN r639 (Nat.zero_le _)]
    rfl
  · exact absurd (zr_rN r638 (Nat.zero_le _)) hr
theorem SV70 : SV7 mem0 := SV7.mk SV60 S70
end ST7
