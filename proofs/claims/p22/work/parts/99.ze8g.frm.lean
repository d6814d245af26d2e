/-! FRAMES: what a contract tells of the state -/
def mF (md : Md) (a k : Nat) : Prop := gNth sT a = none ∨ ∃ g ci fs, gNth sT a = some g ∧ gNth sG g = some (.inl (ci, fs)) ∧ (ci, k) ∈ md
def mW (md : Md) (a : Nat) : Prop := gNth sT a = none ∨ ∃ g, gNth sT a = some g ∧ (1000 + g, 0) ∈ md
theorem shC_row {kd n : Nat} {q : ET} {e : AE} (h : shC (.inr (kd, n, q)) e) : ∃ t x, e = .inl (t, x) := by
  by_cases hk : kd = 2
  · subst hk
    obtain ⟨l, h1, _⟩ := h
    exact ⟨_, _, h1⟩
  · rcases q with sg | g
    · match kd, hk, h with
      | 0, _, h =>
        obtain ⟨l, h1, _⟩ := h
        exact ⟨_, _, h1⟩
      | 1, _, h =>
        obtain ⟨l, h1, _⟩ := h
        exact ⟨_, _, h1⟩
      | n + 3, _, h =>
        obtain ⟨l, h1, _⟩ := h
        exact ⟨_, _, h1⟩
    · match kd, hk, h with
      | 0, _, h =>
        obtain ⟨l, h1, _⟩ := h
        exact ⟨_, _, h1⟩
      | 1, _, h =>
        obtain ⟨l, h1, _⟩ := h
        exact ⟨_, _, h1⟩
      | n + 3, _, h =>
        obtain ⟨l, h1, _⟩ := h
        exact ⟨_, _, h1⟩
set_option maxRecDepth 200000 in
theorem sG_all : (sT.all (fun g => match gNth sG g with | some _ => true | none => false)) = true := by decide +kernel
theorem sG_of {a g : Nat} (h : gNth sT a = some g) : ∃ t, gNth sG g = some t := by
  have hm : g ∈ sT := by
    rw [nth_eq] at h
    exact List.mem_of_getElem? h
  have q := List.all_eq_true.mp sG_all g hm
  cases hg : gNth sG g with
  | none => rw [hg] at q; cases q
  | some t => exact ⟨t, rfl⟩
section FRMZ
variable {md : Md} {M M' : Mem}
theorem frm_fz (hS : SH M) (hF : Frm sT md M M') : FZ (mF md) (mW md) (mW md) M M' := by
  have row : ∀ b, ¬ mW md b → ∀ t x, gNth M b = some (.inl (t, x)) → gNth M' b = some (.inl (t, x)) := fun b hb t x hM => by
    obtain ⟨x', h1, h2⟩ := hF.2.2 b t x hM
    rw [h1, h2 (fun g hg q => hb (Or.inr ⟨g, hg, q⟩))]
  have obj : ∀ b c vs, gNth M b = some (.inr (c, vs)) → ∃ vs', gNth M' b = some (.inr (c, vs')) := fun b c vs hM => by
    obtain ⟨vs', h1, _⟩ := hF.2.1 b c vs hM
    exact ⟨vs', h1⟩
  have non : ∀ b, gNth M b = none → gNth M' b = none := fun b hM => by
    rw [nth_eq] at hM ⊢
    rw [List.getElem?_eq_none_iff] at hM ⊢
    rw [hF.1]
    exact hM
  refine ⟨fun a k hn => ?_, fun b hb => ?_, fun b hb => ?_⟩
  · cases hM : gNth M a with
    | none =>
      unfold fV
      rw [hM, non a hM]
    | some e =>
      rcases e with ⟨t, x⟩ | ⟨c, vs⟩
      · obtain ⟨x', h1, _⟩ := hF.2.2 a t x hM
        unfold fV
        rw [hM, h1]
      · obtain ⟨vs', h1, _, h3⟩ := hF.2.1 a c vs hM
        have hc : (c, k) ∉ md := fun q => by
          cases hT : gNth sT a with
          | none => exact hn (Or.inl hT)
          | some g =>
            obtain ⟨t, ht⟩ := sG_of hT
            obtain ⟨e, e1, e2⟩ := hS.2 a g t hT ht
            rw [hM] at e1
            cases e1
            rcases t with ⟨ci, fs⟩ | ⟨kd, n, q2⟩
            · obtain ⟨vs2, g1, _⟩ := e2
              cases g1
              exact hn (Or.inr ⟨g, _, fs, hT, ht, q⟩)
            · obtain ⟨t2, x2, g1⟩ := shC_row e2
              cases g1
        unfold fV
        rw [hM, h1]
        exact h3 k hc
  · cases hM : gNth M b with
    | none =>
      unfold zrw
      rw [hM, non b hM]
    | some e =>
      rcases e with ⟨t, x⟩ | ⟨c, vs⟩
      · unfold zrw
        rw [hM, row b hb t x hM]
      · obtain ⟨vs', h1⟩ := obj b c vs hM
        unfold zrw
        rw [hM, h1]
  · cases hM : gNth M b with
    | none =>
      unfold roL
      rw [hM, non b hM]
    | some e =>
      rcases e with ⟨t, x⟩ | ⟨c, vs⟩
      · unfold roL
        rw [hM, row b hb t x hM]
      · obtain ⟨vs', h1⟩ := obj b c vs hM
        unfold roL
        rw [hM, h1]
end FRMZ
/-- the class of an object, or none of a row -/
noncomputable def clB (a : Nat) (cs : List Nat) : Bool := match gNth sT a with
  | some g => (match gNth sG g with
    | some (.inl (ci, _)) => cs.any (fun c => Nat.beq c ci)
    | some (.inr _) => true
    | none => false)
  | none => false
noncomputable def gpB (a : Nat) (gs : List Nat) : Bool := match gNth sT a with
  | some g => gs.any (fun c => Nat.beq c g)
  | none => false
theorem any_beq {l : List Nat} {x : Nat} (h : l.any (fun c => Nat.beq c x) = true) : x ∈ l := by
  obtain ⟨y, h1, h2⟩ := List.any_eq_true.mp h
  cases Nat.eq_of_beq_eq_true h2
  exact h1
noncomputable def mdC (md : Md) (cs : List Nat) : Bool := md.all (fun q => !cs.any (fun c => Nat.beq c q.1))
theorem mdC_no {md : Md} {cs : List Nat} {c k : Nat} (h : mdC md cs = true) (hc : c ∈ cs) : (c, k) ∉ md := fun q => by
  have r := List.all_eq_true.mp h _ q
  have : cs.any (fun x => Nat.beq x c) = true := List.any_eq_true.mpr ⟨c, hc, Nat.beq_refl c⟩
  rw [this] at r
  cases r
theorem clB_F {md : Md} {cs : List Nat} {a k : Nat} (h : clB a cs = true) (hm : mdC md cs = true) : ¬ mF md a k := by
  unfold clB at h
  rintro (q | ⟨g, ci, fs, q1, q2, q3⟩)
  · rw [q] at h; cases h
  · rw [q1] at h
    dsimp only at h
    rw [q2] at h
    exact mdC_no hm (any_beq h) q3
theorem gpB_W {md : Md} {gs : List Nat} {a : Nat} (h : gpB a gs = true) (hm : mdC md (gs.map (fun g => 1000 + g)) = true) : ¬ mW md a := by
  unfold gpB at h
  rintro (q | ⟨g, q1, q2⟩)
  · rw [q] at h; cases h
  · rw [q1] at h
    exact mdC_no hm (List.mem_map.mpr ⟨g, any_beq h, rfl⟩) q2
theorem one_F {md : Md} {a g ci k : Nat} (h : gNth sT a = some g) (hB : oB g ci = true) (hm : (!mdIn md ci k) = true) : ¬ mF md a k := by
  rintro (q | ⟨g2, c2, fs, q1, q2, q3⟩)
  · rw [h] at q; cases q
  · rw [h] at q1
    cases q1
    unfold oB at hB
    rw [q2] at hB
    cases Nat.eq_of_beq_eq_true hB
    exact md_no hm q3
/-- what the class's state rests on -/
noncomputable def cstB (md : Md) : Bool := mdC md [1, 6, 8, 9] && (mdC md ([9, 10, 11, 12, 13, 14, 15, 16, 17, 18, 19, 27, 29, 30, 31, 32, 33, 34, 35, 36, 38, 24, 25, 26, 56, 57].map (fun g => 1000 + g)) && ((!mdIn md 10 2) && ((!mdIn md 10 6) && ((!mdIn md 7 2) && ((!mdIn md 0 3) && (!mdIn md 0 4))))))
set_option maxRecDepth 200000 in
theorem cs_ld : fxA.all (fun L => (List.range 96).all (fun i => clB (L + i) [1, 6, 8, 9]) && (List.range 11).all (fun i => gpB (L + 1 + i) [9, 10, 11, 12, 13, 14, 15, 16, 17, 18, 19, 27, 29, 30, 31, 32, 33, 34, 35, 36, 38, 24, 25, 26, 56, 57])) = true := by decide +kernel
set_option maxRecDepth 200000 in
theorem cs_tx : fxT.all (fun t => clB t [1, 6, 8, 9] && (List.range 8).all (fun i => gpB (t + 1 + i) [9, 10, 11, 12, 13, 14, 15, 16, 17, 18, 19, 27, 29, 30, 31, 32, 33, 34, 35, 36, 38, 24, 25, 26, 56, 57])) = true := by decide +kernel
set_option maxRecDepth 200000 in
theorem cs_ot : [106, 107, 108, 109, 129, 339, 340].all (fun a => gpB a [9, 10, 11, 12, 13, 14, 15, 16, 17, 18, 19, 27, 29, 30, 31, 32, 33, 34, 35, 36, 38, 24, 25, 26, 56, 57]) = true := by decide +kernel
section FRMC
variable {md : Md} {T : TS} {P : PK} {PI : Nat → PK} {M M' : Mem}
theorem CST.frm (h : CST T P PI M) (hS : SQ M') (hF : Frm sT md M M') (hB : cstB md = true) : CST T P PI M' := by
  obtain ⟨b1, hB⟩ := and_t hB
  obtain ⟨b2, hB⟩ := and_t hB
  obtain ⟨b3, hB⟩ := and_t hB
  obtain ⟨b4, hB⟩ := and_t hB
  obtain ⟨b5, hB⟩ := and_t hB
  obtain ⟨b6, b7⟩ := and_t hB
  have hZ := frm_fz h.1.1 hF
  have ot : ∀ a, a ∈ [106, 107, 108, 109, 129, 339, 340] → ¬ mW md a := fun a ha => gpB_W (List.all_eq_true.mp cs_ot a ha) b2
  have ld : ∀ L, gNth sT L = some 8 → (∀ a k, L ≤ a → a < L + 96 → ¬ mF md a k) ∧ ∀ a, L + 1 ≤ a → a ≤ L + 11 → ¬ mW md a := fun L hL => by
    have hm : L ∈ fxA := by
      have := ld_cases hL
      unfold fxA
      simp only [List.mem_cons, List.not_mem_nil, or_false]
      exact this
    obtain ⟨c1, c2⟩ := and_t (List.all_eq_true.mp cs_ld L hm)
    refine ⟨fun a k h1 h2 => ?_, fun a h1 h2 => ?_⟩
    · have q := List.all_eq_true.mp c1 (a - L) (List.mem_range.mpr (by omega))
      rw [show L + (a - L) = a by omega] at q
      exact clB_F q b1
    · have q := List.all_eq_true.mp c2 (a - (L + 1)) (List.mem_range.mpr (by omega))
      rw [show L + 1 + (a - (L + 1)) = a by omega] at q
      exact gpB_W q b2
  have tx : ∀ t, gNth sT t = some 28 → (∀ k, ¬ mF md t k) ∧ ∀ k, 1 ≤ k → k ≤ 8 → ¬ mW md (t + k) := fun t ht => by
    have hm : t ∈ fxT := by
      have := tx_cases ht
      unfold fxT
      simp only [List.mem_cons, List.not_mem_nil, or_false]
      exact this
    obtain ⟨c1, c2⟩ := and_t (List.all_eq_true.mp cs_tx t hm)
    refine ⟨fun k => clB_F c1 b1, fun k h1 h8 => ?_⟩
    have q := List.all_eq_true.mp c2 (k - 1) (List.mem_range.mpr (by omega))
    rw [show t + 1 + (k - 1) = t + k by omega] at q
    exact gpB_W q b2
  refine h.scr hS hZ ⟨one_F qa_0 qo_0 b3, one_F qa_0 qo_0 b4, one_F qa_104 qo_22 b5⟩ (fun L hL _ => ⟨(ld L hL).1, fun a h1 h2 => (ld L hL).2 a h1 (by omega)⟩) tx ⟨ot 109 (by simp), ot 129 (by simp), ot 339 (by simp)⟩ (fun L hL _ => (ld L hL).2 (L + 11) (by omega) (by omega)) (fun L hL => ?_) (h.2.2.2.2.1.fz hZ (one_F qa_105 qo_23 b6) (one_F qa_105 qo_23 b7) (fun a h1 h2 => ot a (by simp only [List.mem_cons, List.not_mem_nil, or_false]; omega))) (ot 340 (by simp))
  obtain ⟨x1, x2⟩ := h.2.2.2.2.2.1 L hL
  exact ⟨fun k hk => (hZ.on ((ld L hL).2 (L + 10) (by omega) (by omega))).trans (x1 k hk), x2.on (fun j => hZ.on ((ld L hL).2 (L + 11) (by omega) (by omega)))⟩
/-- what the reference's state rests on -/
noncomputable def rstB (md : Md) : Bool := mdC md ([63, 67, 68, 69, 70, 71, 72, 73, 74, 75].map (fun g => 1000 + g)) && ((!mdIn md 11 28) && ((!mdIn md 11 29) && (!mdIn md 11 30)))
noncomputable def rimB (md : Md) : Bool := mdC md ([64, 66].map (fun g => 1000 + g))
set_option maxRecDepth 200000 in
theorem rs_ot : [635, 639, 640, 641, 642, 643, 644, 645, 646, 647].all (fun a => gpB a [63, 67, 68, 69, 70, 71, 72, 73, 74, 75]) = true := by decide +kernel
set_option maxRecDepth 200000 in
theorem ri_ot : [636, 638].all (fun a => gpB a [64, 66]) = true := by decide +kernel
theorem RST.frm (h : RST T P M) (hS : SQ M') (hF : Frm sT md M M') (hB : rstB md = true) : RST T P M' := by
  obtain ⟨b2, hB⟩ := and_t hB
  obtain ⟨b3, hB⟩ := and_t hB
  obtain ⟨b4, b5⟩ := and_t hB
  refine h.fz hS (frm_fz h.1.1 hF) (fun k h1 h2 => ?_) (fun a ha => gpB_W (List.all_eq_true.mp rs_ot a (by simp only [List.mem_cons, List.not_mem_nil, or_false]; omega)) b2)
  have hk : k = 28 ∨ k = 29 ∨ k = 30 := by omega
  rcases hk with rfl | rfl | rfl
  · exact one_F qa_633 qo_61 b3
  · exact one_F qa_633 qo_61 b4
  · exact one_F qa_633 qo_61 b5
theorem RIM.fz {F : Nat → Nat → Prop} {W O : Nat → Prop} (h : RIM PI M) (hF : FZ F W O M M') (w : ¬ W 636 ∧ ¬ W 638) : RIM PI M' := fun k hk hr i hi => by
  rw [hF.rn w.2] at hr
  rw [hF.rn w.1]
  exact h k hk hr i hi
theorem RIM.frm (h : RIM PI M) (hS : SH M) (hF : Frm sT md M M') (hB : rimB md = true) : RIM PI M' := h.fz (frm_fz hS hF) ⟨gpB_W (List.all_eq_true.mp ri_ot 636 (by simp)) hB, gpB_W (List.all_eq_true.mp ri_ot 638 (by simp)) hB⟩
end FRMC
