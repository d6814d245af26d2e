/-! FRAMES: what a contract tells of the state -/
def mF (md : Md) (a k : Nat) : Prop := gNth sT a = none ∨ ∃ g ci fs, gNth sT a = some g ∧ gNth sG g = some (.inl (ci, fs)) ∧ (ci, k) ∈ md
def mW (md : Md) (a : Nat) : Prop := gNth sT a = none ∨ ∃ g, gNth sT a = some g ∧ (1000 + g, 0) ∈ md
theorem shC_row {kd n : Nat} {q : ET} {e : AE} (h : shC (.inr (kd, n, q)) e) : ∃ t x, e = .inl (t, x) := by
  by_cases hk : kd = 2
  · subst hk
    obtain ⟨l, h1, _⟩ := h
    exact ⟨_, _, h1⟩
  · rcases q with sg | g
    · match kd, hk, h with
      | 0, _, h =>
        obtain ⟨l, h1, _⟩ := h
        exact ⟨_, _, h1⟩
      | 1, _, h =>
        obtain ⟨l, h1, _⟩ := h
        exact ⟨_, _, h1⟩
      | n + 3, _, h =>
        obtain ⟨l, h1, _⟩ := h
        exact ⟨_, _, h1⟩
    · match kd, hk, h with
      | 0, _, h =>
        obtain ⟨l, h1, _⟩ := h
        exact ⟨_, _, h1⟩
      | 1, _, h =>
        obtain ⟨l, h1, _⟩ := h
        exact ⟨_, _, h1⟩
      | n + 3, _, h =>
        obtain ⟨l, h1, _⟩ := h
        exact ⟨_, _, h1⟩
set_option maxRecDepth 200000 in
theorem sG_all : (sT.all (fun g => match gNth sG g with | some _ => true | none => false)) = true := by decide +kernel
theorem sG_of {a g : Nat} (h : gNth sT a = some g) : ∃ t, gNth sG g = some t := by
  have hm : g ∈ sT := by
    rw [nth_eq] at h
    exact List.mem_of_getElem? h
  have q := List.all_eq_true.mp sG_all g hm
  cases hg : gNth sG g with
  | none => rw [hg] at q; cases q
  | some t => exact ⟨t, rfl⟩
section FRMZ
variable {md : Md} {M M' : Mem}
theorem frm_fz (hS : SH M) (hF : Frm sT md M M') : FZ (mF md) (mW md) (mW md) M M' := by
  have row : ∀ b, ¬ mW md b → ∀ t x, gNth M b = some (.inl (t, x)) → gNth M' b = some (.inl (t, x)) := fun b hb t x hM => by
    obtain ⟨x', h1, h2⟩ := hF.2.2 b t x hM
    rw [h1, h2 (fun g hg q => hb (Or.inr ⟨g, hg, q⟩))]
  have obj : ∀ b c vs, gNth M b = some (.inr (c, vs)) → ∃ vs', gNth M' b = some (.inr (c, vs')) := fun b c vs hM => by
    obtain ⟨vs', h1, _⟩ := hF.2.1 b c vs hM
    exact ⟨vs', h1⟩
  have non : ∀ b, gNth M b = none → gNth M' b = none := fun b hM => by
    rw [nth_eq] at hM ⊢
    rw [List.getElem?_eq_none_iff] at hM ⊢
    rw [hF.1]
    exact hM
  refine ⟨fun a k hn => ?_, fun b hb => ?_, fun b hb => ?_⟩
  · cases hM : gNth M a with
    | none =>
      unfold fV
      rw [hM, non a hM]
    | some e =>
      rcases e with ⟨t, x⟩ | ⟨c, vs⟩
      · obtain ⟨x', h1, _⟩ := hF.2.2 a t x hM
        unfold fV
        rw [hM, h1]
      · obtain ⟨vs', h1, _, h3⟩ := hF.2.1 a c vs hM
        have hc : (c, k) ∉ md := fun q => by
          cases hT : gNth sT a with
          | none => exact hn (Or.inl hT)
          | some g =>
            obtain ⟨t, ht⟩ := sG_of hT
            obtain ⟨e, e1, e2⟩ := hS.2 a g t hT ht
            rw [hM] at e1
            cases e1
            rcases t with ⟨ci, fs⟩ | ⟨kd, n, q2⟩
            · obtain ⟨vs2, g1, _⟩ := e2
              cases g1
              exact hn (Or.inr ⟨g, _, fs, hT, ht, q⟩)
            · obtain ⟨t2, x2, g1⟩ := shC_row e2
              cases g1
        unfold fV
        rw [hM, h1]
        exact h3 k hc
  · cases hM : gNth M b with
    | none =>
      unfold zrw
      rw [hM, non b hM]
    | some e =>
      rcases e with ⟨t, x⟩ | ⟨c, vs⟩
      · unfold zrw
        rw [hM, row b hb t x hM]
      · obtain ⟨vs', h1⟩ := obj b c vs hM
        unfold zrw
        rw [hM, h1]
  · cases hM : gNth M b with
    | none =>
      unfold roL
      rw [hM, non b hM]
    | some e =>
      rcases e with ⟨t, x⟩ | ⟨c, vs⟩
      · unfold roL
        rw [hM, row b hb t x hM]
      · obtain ⟨vs', h1⟩ := obj b c vs hM
        unfold roL
        rw [hM, h1]
end FRMZ
/-- the class of an object, or none of a row -/
noncomputable def clB (a : Nat) (cs : List Nat) : Bool := match gNth sT a with
  | some g => (match gNth sG g with
    | some (.inl (ci, _)) => cs.any (fun c => Nat.beq c ci)
    | some (.inr _) => true
    | none => false)
  | none => false
noncomputable def gpB (a : Nat) (gs : List Nat) : Bool := match gNth sT a with
  | some g => gs.any (fun c => Nat.beq c g)
  | none => false
theorem any_beq {l : List Nat} {x : Nat} (h : l.any (fun c => Nat.beq c x) = true) : x ∈ l := by
  obtain ⟨y, h1, h2⟩ := List.any_eq_true.mp h
  cases Nat.eq_of_beq_eq_true h2
  exact h1
noncomputable def mdC (md : Md) (cs : List Nat) : Bool := md.all (fun q => !cs.any (fun c => Nat.beq c q.1))
theorem mdC_no {md : Md} {cs : List Nat} {c k : Nat} (h : mdC md cs = true) (hc : c ∈ cs) : (c, k) ∉ md := fun q => by
  have r := List.all_eq_true.mp h _ q
  have : cs.any (fun x => Nat.beq x c) = true := List.any_eq_true.mpr ⟨c, hc, Nat.beq_refl c⟩
  rw [this] at r
  cases r
theorem clB_F {md : Md} {cs : List Nat} {a k : Nat} (h : clB a cs = true) (hm : mdC md cs = true) : ¬ mF md a k := by
  unfold clB at h
  rintro (q | ⟨g, ci, fs, q1, q2, q3⟩)
  · rw [q] at h; cases h
  · rw [q1] at h
    dsimp only at h
    rw [q2] at h
    exact mdC_no hm (any_beq h) q3
theorem gpB_W {md : Md} {gs : List Nat} {a : Nat} (h : gpB a gs = true) (hm : mdC md (gs.map (fun g => 1000 + g)) = true) : ¬ mW md a := by
  unfold gpB at h
  rintro (q | ⟨g, q1, q2⟩)
  · rw [q] at h; cases h
  · rw [q1] at h
    exact mdC_no hm (List.mem_map.mpr ⟨g, any_beq h, rfl⟩) q2
theorem one_F {md : Md} {a g ci k : Nat} (h : gNth sT a = some g) (hB : oB g ci = true) (hm : (!mdIn md ci k) = true) : ¬ mF md a k := by
  rintro (q | ⟨g2, c2, fs, q1, q2, q3⟩)
  · rw [h] at q; cases q
  · rw [h] at q1
    cases q1
    unfold oB at hB
    rw [q2] at hB
    cases Nat.eq_of_beq_eq_true hB
    exact md_no hm q3
/-- what the class's state rests on -/
noncomputable def cstB (md : Md) : Bool := mdC md [1, 6, 8, 9] && (mdC md ([9, 10, 11, 12, 13, 14, 15, 16, 17, 18, 19, 27, 29, 30, 31, 32, 33, 34, 35, 36, 38, 24, 25, 26, 56, 57].map (fun g => 1000 + g)) && ((!mdIn md 10 2) && ((!mdIn md 10 6) && ((!mdIn md 7 2) && ((!mdIn md 0 3) && (!mdIn md 0 4))))))
set_option maxRecDepth 200000 in
theorem cs_ld : fxA.all (fun L => (List.range 96).all (fun i => clB (L + i) [1, 6, 8, 9]) && (List.range 11).all (fun i => gpB (L + 1 + i) [9, 10, 11, 12, 13, 14, 15, 16, 17, 18, 19, 27, 29, 30, 31, 32, 33, 34, 35, 36, 38, 24, 25, 26, 56, 57])) = true := by decide +kernel
set_option maxRecDepth 200000 in
theorem cs_tx : fxT.all (fun t => clB t [1, 6, 8, 9] && (List.range 8).all (fun i => gpB (t + 1 + i) [9, 10, 11, 12, 13, 14, 15, 16, 17, 18, 19, 27, 29, 30, 31, 32, 33, 34, 35, 36, 38, 24, 25, 26, 56, 57])) = true := by decide +kernel
set_option maxRecDepth 200000 in
theorem cs_ot : [106, 107, 108, 109, 129, 339, 340].all (fun a => gpB a [9, 10, 11, 12, 13, 14, 15, 16, 17, 18, 19, 27, 29, 30, 31, 32, 33, 34, 35, 36, 38, 24, 25, 26, 56, 57]) = true := by decide +kernel
section FRMC
variable {md : Md} {T : TS} {P : PK} {PI : Nat → PK} {M M' : Mem}
theorem CST.frm (h : CST T P PI M) (hS : SQ M') (hF : Frm sT md M M') (hB : cstB md = true) : CST T P PI M' := by
  obtain ⟨b1, hB⟩ := and_t hB
  obtain ⟨b2, hB⟩ := and_t hB
  obtain ⟨b3, hB⟩ := and_t hB
  obtain ⟨b4, hB⟩ := and_t hB
  obtain ⟨b5, hB⟩ := and_t hB
  obtain ⟨b6, b7⟩ := and_t hB
  have hZ := frm_fz h.1.1 hF
  have ot : ∀ a, a ∈ [106, 107, 108, 109, 129, 339, 340] → ¬ mW md a := fun a ha => gpB_W (List.all_eq_true.mp cs_ot a ha) b2
  have ld : ∀ L, gNth sT L = some 8 → (∀ a k, L ≤ a → a < L + 96 → ¬ mF md a k) ∧ ∀ a, L + 1 ≤ a → a ≤ L + 11 → ¬ mW md a := fun L hL => by
    have hm : L ∈ fxA := by
      have := ld_cases hL
      unfold fxA
      simp only [List.mem_cons, List.not_mem_nil, or_false]
      exact this
    obtain ⟨c1, c2⟩ := and_t (List.all_eq_true.mp cs_ld L hm)
    refine ⟨fun a k h1 h2 => ?_, fun a h1 h2 => ?_⟩
    · have q := List.all_eq_true.mp c1 (a - L) (List.mem_range.mpr (by omega))
      rw [show L + (a - L) = a by omega] at q
      exact clB_F q b1
    · have q := List.all_eq_true.mp c2 (a - (L + 1)) (List.mem_range.mpr (by omega))
      rw [show L + 1 + (a - (L + 1)) = a by omega] at q
      exact gpB_W q b2
  have tx : ∀ t, gNth sT t = some 28 → (∀ k, ¬ mF md t k) ∧ ∀ k, 1 ≤ k → k ≤ 8 → ¬ mW md (t + k) := fun t ht => by
    have hm : t ∈ fxT := by
      have := tx_cases ht
      unfold fxT
      simp only [List.mem_cons, List.not_mem_nil, or_false]
      exact this
    obtain ⟨c1, c2⟩ := and_t (List.all_eq_true.mp cs_tx t hm)
    refine ⟨fun k => clB_F c1 b1, fun k h1 h8 => ?_⟩
    have q := List.all_eq_true.mp c2 (k - 1) (List.mem_range.mpr (by omega))
    rw [show t + 1 + (k - 1) = t + k by omega] at q
    exact gpB_W q b2
  refine h.scr hS hZ ⟨one_F qa_0 qo_0 b3, one_F qa_0 qo_0 b4, one_F qa_104 qo_22 b5⟩ (fun L hL _ => ⟨(ld L hL).1, fun a h1 h2 => (ld L hL).2 a h1 (by omega)⟩) tx ⟨ot 109 (by simp), ot 129 (by simp), ot 339 (by simp)⟩ (fun L hL _ => (ld L hL).2 (L + 11) (by omega) (by omega)) (fun L hL => ?_) (h.2.2.2.2.1.fz hZ (one_F qa_105 qo_23 b6) (one_F qa_105 qo_23 b7) (fun a h1 h2 => ot a (by simp only [List.mem_cons, List.not_mem_nil, or_false]; omega))) (ot 340 (by simp))
  obtain ⟨x1, x2⟩ := h.2.2.2.2.2.1 L hL
  exact ⟨fun k hk => (hZ.on ((ld L hL).2 (L + 10) (by omega) (by omega))).trans (x1 k hk), x2.on (fun j => hZ.on ((ld L hL).2 (L + 11) (by omega) (by omega)))⟩
/-- what the reference's state rests on -/
noncomputable def rstB (md : Md) : Bool := mdC md ([63, 67, 68, 69, 70, 71, 72, 73, 74, 75].map (fun g => 1000 + g)) && ((!mdIn md 11 28) && ((!mdIn md 11 29) && (!mdIn md 11 30)))
noncomputable def rimB (md : Md) : Bool := mdC md ([64, 66].map (fun g => 1000 + g))
set_option maxRecDepth 200000 in
theorem rs_ot : [635, 639, 640, 641, 642, 643, 644, 645, 646, 647].all (fun a => gpB a [63, 67, 68, 69, 70, 71, 72, 73, 74, 75]) = true := by decide +kernel
set_option maxRecDepth 200000 in
theorem ri_ot : [636, 638].all (fun a => gpB a [64, 66]) = true := by decide +kernel
theorem RST.frm (h : RST T P M) (hS : SQ M') (hF : Frm sT md M M') (hB : rstB md = true) : RST T P M' := by
  obtain ⟨b2, hB⟩ := and_t hB
  obtain ⟨b3, hB⟩ := and_t hB
  obtain ⟨b4, b5⟩ := and_t hB
  refine h.fz hS (frm_fz h.1.1 hF) (fun k h1 h2 => ?_) (fun a ha => gpB_W (List.all_eq_true.mp rs_ot a (by simp only [List.mem_cons, List.not_mem_nil, or_false]; omega)) b2)
  have hk : k = 28 ∨ k = 29 ∨ k = 30 := by omega
  rcases hk with rfl | rfl | rfl
  · exact one_F qa_633 qo_61 b3
  · exact one_F qa_633 qo_61 b4
  · exact one_F qa_633 qo_61 b5
theorem RIM.fz {F : Nat → Nat → Prop} {W O : Nat → Prop} (h : RIM PI M) (hF : FZ F W O M M') (w : ¬ W 636 ∧ ¬ W 638) : RIM PI M' := fun k hk hr i hi => by
  rw [hF.rn w.2] at hr
  rw [hF.rn w.1]
  exact h k hk hr i hi
theorem RIM.frm (h : RIM PI M) (hS : SH M) (hF : Frm sT md M M') (hB : rimB md = true) : RIM PI M' := h.fz (frm_fz hS hF) ⟨gpB_W (List.all_eq_true.mp ri_ot 636 (by simp)) hB, gpB_W (List.all_eq_true.mp ri_ot 638 (by simp)) hB⟩
end FRMC
/-! THE TEXTS between calls: law and habit of both sides -/
noncomputable def txr (M : Mem) (i : Nat) : Nat := if i = 0 then fR M 104 2 else if i = 7 then fR M 104 3 else oN M 109 (i - 1)
/-- the texts are unlike each other -/
def TXd (M : Mem) : Prop := ∀ i j, i < 8 → j < 8 → txr M i = txr M j → i = j
noncomputable def newT (T : TS) (t : Nat) (r : PLn) : TS := match r with
  | .inr _ => T
  | .inl q => fun i => if i = t then q else T i
def swN (a b i : Nat) : Nat := if i = a then b else if i = b then a else i
section TXTS
variable {e n t sp : Nat} {B : Nat → Int32} {T T' : TS} {P : PK} {PI : Nat → PK} {M M1 M' : Mem} {v : Option Value} {x : Int32} {F : Nat → Nat → Prop} {W O : Nat → Prop}
theorem swN_a {a b : Nat} : swN a b a = b := if_pos rfl
theorem swN_b {a b : Nat} : swN a b b = a := by
  unfold swN
  by_cases h : b = a
  · rw [if_pos h]; exact h
  · rw [if_neg h, if_pos rfl]
theorem swN_o {a b i : Nat} (h1 : i ≠ a) (h2 : i ≠ b) : swN a b i = i := by
  unfold swN
  rw [if_neg h1, if_neg h2]
theorem swN_2 {a b i : Nat} : swN a b (swN a b i) = i := by
  by_cases h1 : i = a
  · rw [h1, swN_a, swN_b]
  · by_cases h2 : i = b
    · rw [h2, swN_b, swN_a]
    · rw [swN_o h1 h2, swN_o h1 h2]
theorem swN_lt {a b i n : Nat} (ha : a < n) (hb : b < n) (hi : i < n) : swN a b i < n := by
  unfold swN
  split
  · exact hb
  · split
    · exact ha
    · exact hi
theorem TXd.sw {a b : Nat} (h : TXd M) (ha : a < 8) (hb : b < 8) (e : ∀ i, i < 8 → txr M' i = txr M (swN a b i)) : TXd M' := fun i j hi hj q => by
  rw [e i hi, e j hj] at q
  have r := h _ _ (swN_lt ha hb hi) (swN_lt ha hb hj) q
  have s : swN a b (swN a b i) = swN a b (swN a b j) := by rw [r]
  rw [swN_2, swN_2] at s
  exact s
theorem TXd.same (h : TXd M) (h2 : fR M' 104 2 = fR M 104 2) (h3 : fR M' 104 3 = fR M 104 3) (ho : ∀ j, oN M' 109 j = oN M 109 j) : TXd M' := fun i j hi hj q => h i j hi hj (by
  unfold txr at q ⊢
  rw [h2, h3, ho, ho] at q
  exact q)
theorem TXd.frm {md : Md} (h : TXd M) (hS : SH M) (hF : Frm sT md M M') (hB : ((!mdIn md 7 2) && ((!mdIn md 7 3) && mdC md [1027])) = true) : TXd M' := by
  obtain ⟨b1, hB⟩ := and_t hB
  obtain ⟨b2, b3⟩ := and_t hB
  have hZ := frm_fz hS hF
  have g : gpB 109 [27] = true := by
    unfold gpB
    rw [qa_109]
    rfl
  exact h.same (hZ.fr (one_F qa_104 qo_22 b1)) (hZ.fr (one_F qa_104 qo_22 b2)) (fun j => hZ.on (gpB_W g b3))
theorem tx_far {s : Nat} (ht : gNth sT t = some 28) (hs : gNth sT s = some 28) (h : t ≠ s) : t + 9 ≤ s ∨ s + 9 ≤ t := by
  rcases tx_cases ht with h1 | h1 | h1 | h1 | h1 | h1 | h1 | h1 <;> rcases tx_cases hs with h2 | h2 | h2 | h2 | h2 | h2 | h2 | h2 <;> omega
theorem tx_r (ht : gNth sT t = some 28) : 110 ≤ t ∧ t + 8 ≤ 191 ∧ (t + 8 < 128 ∨ 138 ≤ t) := by
  rcases tx_cases ht with h1 | h1 | h1 | h1 | h1 | h1 | h1 | h1 <;> omega
/-- a text is read -/
theorem CST.txt (h : CST T P PI M) (hS : SQ M') (hF : FZ F W O M M') (hsp : gNth sT sp = some 28) (f : ∀ a k, F a k → (a = 104 ∧ (k = 2 ∨ k = 3)) ∨ a = 1 ∨ (a = 0 ∧ k = 15) ∨ a = 3 ∨ a = sp) (fw : ∀ a, W a → (4 ≤ a ∧ a ≤ 7) ∨ (sp + 1 ≤ a ∧ a ≤ sp + 8)) (fo : ∀ a, O a → a = 109) (hT : TXc T' M') : CST T' P PI M' := by
  obtain ⟨a1, ⟨a2, a3, a4⟩, a5, a6, a7, a8, ⟨a9, a10⟩, a11⟩ := h
  obtain ⟨r1, r2, r3⟩ := tx_r hsp
  have nF : ∀ a k, ¬ ((a = 104 ∧ (k = 2 ∨ k = 3)) ∨ a = 1 ∨ (a = 0 ∧ k = 15) ∨ a = 3 ∨ a = sp) → ¬ F a k := fun a k q r => q (f a k r)
  have nW : ∀ a, ¬ ((4 ≤ a ∧ a ≤ 7) ∨ (sp + 1 ≤ a ∧ a ≤ sp + 8)) → ¬ W a := fun a q r => q (fw a r)
  have nO : ∀ a, a ≠ 109 → ¬ O a := fun a q r => q (fo a r)
  refine ⟨hS, ⟨(hF.fr (nF _ _ (by omega))).trans a2, (hF.fr (nF _ _ (by omega))).trans a3, fun k hk => (hF.on (nO _ (by decide))).trans (a4 k hk)⟩, hT, fun m hm => (hF.on (nO _ (by decide))).trans (a6 m hm), a7.fz hF (nF _ _ (by omega)) (nF _ _ (by omega)) (fun a h1 h2 => nW _ (by omega)), fun L hL => ?_, ⟨a9, a10.fz hF (fun a k h1 h2 => nF _ _ (by omega)) (fun a h1 h2 => nW _ (by omega)) (nO _ (by decide)) (a8 8 lnd_8).2 a9.n24 a9.k60⟩, fun k hk hr => ?_⟩
  · have hc := ld_cases hL
    exact ⟨fun k hk => (hF.on (nO _ (by omega))).trans ((a8 L hL).1 k hk), (a8 L hL).2.on (fun j => hF.on (nO _ (by omega)))⟩
  · have er : rN M' 340 k = rN M 340 k := hF.rn (nW _ (by omega))
    rw [er] at hr
    obtain ⟨b1, b2⟩ := a11 k hk hr
    have hi := lnd_im k hk
    exact ⟨b1, b2.fz hF (fun a k q1 q2 => nF _ _ (by unfold imgA at q1; omega)) (fun a q1 q2 => nW _ (by unfold imgA at q1; omega)) (nO _ (by unfold imgA; omega)) (a8 _ hi).2 b1.n24 b1.k60⟩
theorem fRe_in {a k : Nat} (h : (a, k) ∈ fRe sp) : (a = 104 ∧ (k = 2 ∨ k = 3)) ∨ a = 1 ∨ (a = 0 ∧ k = 15) ∨ a = 3 ∨ a = sp := by
  unfold fRe fTx at h
  simp only [List.mem_append, List.mem_cons, Prod.mk.injEq, List.not_mem_nil, or_false] at h
  omega
theorem wTx_in {a : Nat} (h : a ∈ wTx sp) : (4 ≤ a ∧ a ≤ 7) ∨ (sp + 1 ≤ a ∧ a ≤ sp + 8) := by
  unfold wTx at h
  simp only [List.mem_cons, List.not_mem_nil, or_false] at h
  omega
/-- another text than the one that is read -/
theorem TXT.oth {q : TQ} (h : TXT M t q) (ht : gNth sT t = some 28) (hsp : gNth sT sp = some 28) (hne : t ≠ sp) (hF : FZ F W O M M') (f : ∀ a k, F a k → (a = 104 ∧ (k = 2 ∨ k = 3)) ∨ a = 1 ∨ (a = 0 ∧ k = 15) ∨ a = 3 ∨ a = sp) (fw : ∀ a, W a → (4 ≤ a ∧ a ≤ 7) ∨ (sp + 1 ≤ a ∧ a ≤ sp + 8)) : TXT M' t q := by
  obtain ⟨r1, r2, r3⟩ := tx_r ht
  have hd := tx_far ht hsp hne
  exact h.fz hF (fun k r => by have := f _ _ r; omega) (fun k k1 k8 r => by have := fw _ r; omega)
theorem TXT.l96 {q : TQ} (h : TXT M t q) : q.1.2.2.length ≤ 96 := h.2.1.2.1
theorem lawS_ok (h : CST T P PI M) (hd : TXd M) (hn : (zI M 1 1).toInt = (n : Int)) (hn2 : n ≤ 440) (hB : ∀ k, k < n → bC M k = B k) (H : Ev none (e + 3) 85 0 [some (.ref 0), none, none] [] M v M' 0 0) : (∃ x, v = some (.int x) ∧ x.toInt = ansB (rdB B n true ((prS B e).1 1))) ∧ CST (newT T 0 (rdB B n true ((prS B e).1 1))) P PI M' ∧ TXd M' ∧ ∀ q, rdB B n true ((prS B e).1 1) = .inl q → q.1.2.2.length ≤ 96 := by
  obtain ⟨hv, hS', hF, _, _, R⟩ := law_ok h.1 hn hn2 hB H
  obtain ⟨t3, t2⟩ := tN h.1
  have hZ : FZ (fun a k => (a, k) ∈ fRe (fR M 104 3)) (fun a => a ∈ wTx (fR M 104 3)) noO M M' := ⟨fun a k q => hF.1 a k q, fun b q => hF.2.1 b q, fun b _ => hF.2.2 b⟩
  have on : ∀ j, oN M' 109 j = oN M 109 j := fun j => hF.on
  obtain ⟨⟨c1, c2⟩, c3⟩ := h.2.2.1
  have ha : ∀ i, i < 6 → TXT M' (oN M' 109 i) (T (i + 1)) := fun i hi => by
    rw [on]
    refine (c3 i hi).1.oth (hab_t h.1.1 hi) t3 (fun q => ?_) hZ (fun a k => fRe_in) (fun a => wTx_in)
    have := hd (i + 1) 7 (by omega) (by decide) (by
      unfold txr
      rw [if_neg (by omega), if_neg (by omega), if_neg (by decide), if_pos rfl]
      exact q)
    omega
  cases hr : rdB B n true ((prS B e).1 1) with
  | inr f =>
    rw [hr] at R hv
    obtain ⟨R1, R2⟩ := R
    refine ⟨hv, h.txt hS' hZ t3 (fun a k => fRe_in) (fun a => wTx_in) (fun _ q => q.elim) ⟨⟨?_, c2⟩, fun i hi => ⟨ha i hi, (c3 i hi).2⟩⟩, hd.same R1 R2 on, fun q hq => by cases hq⟩
    rw [R1]
    refine c1.oth t2 t3 (fun q => ?_) hZ (fun a k => fRe_in) (fun a => wTx_in)
    have := hd 0 7 (by decide) (by decide) q
    cases this
  | inl q =>
    rw [hr] at R hv
    obtain ⟨R1, R2, R3⟩ := R
    refine ⟨hv, h.txt hS' hZ t3 (fun a k => fRe_in) (fun a => wTx_in) (fun _ q => q.elim) ⟨⟨?_, ?_⟩, fun i hi => ?_⟩, ?_, fun q' hq => by cases hq; exact R3.l96⟩
    · rw [R1]
      exact R3
    · exact rd_wf hn2 hr
    · show TXT M' (oN M' 109 i) (if i + 1 = 0 then q else T (i + 1)) ∧ LW (if i + 1 = 0 then q else T (i + 1))
      rw [if_neg (by omega)]
      exact ⟨ha i hi, (c3 i hi).2⟩
    · refine hd.sw (a := 0) (b := 7) (by decide) (by decide) (fun i hi => ?_)
      by_cases h0 : i = 0
      · rw [h0, swN_a]
        exact R1
      · by_cases h7 : i = 7
        · rw [h7, swN_b]
          exact R2
        · rw [swN_o h0 h7]
          unfold txr
          rw [if_neg h0, if_neg h7, if_neg h0, if_neg h7, on]
theorem habS_ok (h : CST T P PI M) (hd : TXd M) (hx : 0 ≤ x.toInt ∧ x.toInt ≤ 5) (hn : (zI M 1 1).toInt = (n : Int)) (hn2 : n ≤ 440) (hB : ∀ k, k < n → bC M k = B k) (H : Ev none (e + 3) 86 0 [some (.ref 0), some (.int x), none, none] [] M v M' 0 0) : (∃ x, v = some (.int x) ∧ x.toInt = ansB (rdB B n false ((prS B e).1 1))) ∧ CST (newT T (x.toInt.toNat + 1) (rdB B n false ((prS B e).1 1))) P PI M' ∧ TXd M' ∧ ∀ q, rdB B n false ((prS B e).1 1) = .inl q → q.1.2.2.length ≤ 96 := by
  obtain ⟨hv, hS', hF1, hF2, hF3, _, _, hl, R⟩ := hab_ok h.1 hx hn hn2 hB H
  obtain ⟨t3, t2⟩ := tN h.1
  have hZ : FZ (fun a k => (a, k) ∈ fRe (fR M 104 3)) (fun a => a ∈ wTx (fR M 104 3)) (fun a => a = 109) M M' := ⟨hF1, hF2, hF3⟩
  obtain ⟨⟨c1, c2⟩, c3⟩ := h.2.2.1
  obtain ⟨m, em⟩ : ∃ m, m = x.toInt.toNat := ⟨_, rfl⟩
  have hm6 : m < 6 := by omega
  have ex : x.toNatClampNeg = m := cl_n (by omega)
  have hla : TXT M' (fR M' 104 2) (T 0) := by
    rw [hl]
    refine c1.oth t2 t3 (fun q => ?_) hZ (fun a k => fRe_in) (fun a => wTx_in)
    have := hd 0 7 (by decide) (by decide) q
    cases this
  have ha : ∀ i, i < 6 → oN M' 109 i = oN M 109 i → TXT M' (oN M' 109 i) (T (i + 1)) := fun i hi on => by
    rw [on]
    refine (c3 i hi).1.oth (hab_t h.1.1 hi) t3 (fun q => ?_) hZ (fun a k => fRe_in) (fun a => wTx_in)
    have := hd (i + 1) 7 (by omega) (by decide) (by
      unfold txr
      rw [if_neg (by omega), if_neg (by omega), if_neg (by decide), if_pos rfl]
      exact q)
    omega
  rw [← em]
  cases hr : rdB B n false ((prS B e).1 1) with
  | inr f =>
    rw [hr] at R hv
    obtain ⟨R1, R2⟩ := R
    have on : ∀ j, oN M' 109 j = oN M 109 j := fun j => by unfold oN; rw [R1]
    exact ⟨hv, h.txt hS' hZ t3 (fun a k => fRe_in) (fun a => wTx_in) (fun _ q => q) ⟨⟨hla, c2⟩, fun i hi => ⟨ha i hi (on i), (c3 i hi).2⟩⟩, hd.same hl R2 on, fun q hq => by cases hq⟩
  | inl q =>
    rw [hr] at R hv
    obtain ⟨R1, R2, R3⟩ := R
    rw [ex] at R1
    have ln : (roL M 109).length = 6 := (h.1.1.ror qa_109 qz_27).2.1
    have on : ∀ j, j ≠ m → oN M' 109 j = oN M 109 j := fun j hj => by
      unfold oN
      rw [R1, nth_put, if_neg (fun q => hj q.1)]
    have om : oN M' 109 m = fR M 104 3 := by
      unfold oN
      rw [R1, nth_put, if_pos ⟨rfl, by omega⟩]
      rfl
    have eo : oI M 109 x = oN M 109 m := by unfold oI; rw [ex]
    rw [eo] at R2
    refine ⟨hv, h.txt hS' hZ t3 (fun a k => fRe_in) (fun a => wTx_in) (fun _ q => q) ⟨⟨?_, ?_⟩, fun i hi => ?_⟩, ?_, fun q' hq => by cases hq; exact R3.l96⟩
    · show TXT M' (fR M' 104 2) (if 0 = m + 1 then q else T 0)
      rw [if_neg (by omega)]
      exact hla
    · show LW (if 0 = m + 1 then q else T 0)
      rw [if_neg (by omega)]
      exact c2
    · show TXT M' (oN M' 109 i) (if i + 1 = m + 1 then q else T (i + 1)) ∧ LW (if i + 1 = m + 1 then q else T (i + 1))
      by_cases him : i = m
      · rw [if_pos (by omega), him, om]
        exact ⟨R3, rd_wf hn2 hr⟩
      · rw [if_neg (by omega)]
        exact ⟨ha i hi (on i him), (c3 i hi).2⟩
    · refine hd.sw (a := m + 1) (b := 7) (by omega) (by decide) (fun i hi => ?_)
      by_cases h0 : i = m + 1
      · rw [h0, swN_a]
        unfold txr
        rw [if_neg (by omega), if_neg (by omega), if_neg (by decide), if_pos rfl]
        exact om
      · by_cases h7 : i = 7
        · rw [h7, swN_b]
          unfold txr
          rw [if_neg (by decide), if_pos rfl, if_neg (by omega), if_neg (by omega)]
          exact R2
        · rw [swN_o h0 h7]
          unfold txr
          by_cases hz : i = 0
          · rw [if_pos hz, if_pos hz]
            exact hl
          · rw [if_neg hz, if_neg h7, if_neg hz, if_neg h7, on _ (by omega)]
/-! the reference's -/
theorem rlawS_ok (hR : RST T P M) (hn2 : n ≤ 440) (hn : (zI M 633 2).toInt = (n : Int)) (hk : 33 ≤ e) (hq : ∀ q, rdB (bR M) n true ((prS (bR M) e).1 1) = .inl q → q.1.2.2.length ≤ 96) (H : Ev none (e + 3) 183 0 [some (.ref 633), none] [] M v M' 0 0) : (∃ x, v = some (.int x) ∧ x.toInt = ansB (rdB (bR M) n true ((prS (bR M) e).1 1))) ∧ RST (newT T 0 (rdB (bR M) n true ((prS (bR M) e).1 1))) P M' := by
  obtain ⟨hv, hS', hF, _, _, _, R, lo⟩ := rlaw_ok (kk := e) hn2 hk hR.1 hn H
  obtain ⟨_, h2, ⟨h3, h4, h5⟩, h6⟩ := hR
  have hs : ∀ i, i < 2314 → rN M' 635 i = P i := fun i hi => by rw [hF.rn (by decide)]; exact h2 i hi
  cases hr : rdB (bR M) n true ((prS (bR M) e).1 1) with
  | inr f =>
    rw [hr] at R hv
    obtain ⟨R1, R2, R3, R4⟩ := R
    exact ⟨hv, hS', hs, ⟨R1.trans h3, R2.trans h4, R3.trans h5⟩, fun t ht => ⟨⟨R4 t ht _ (h6 t ht).1.1, (h6 t ht).1.2⟩, (h6 t ht).2⟩⟩
  | inl q =>
    rw [hr] at R hv
    obtain ⟨R0, R1, R2, R3⟩ := R
    refine ⟨hv, hS', hs, ⟨R1, R2, R3⟩, fun t ht => ?_⟩
    show (TXR M' t (if t = 0 then q else T t) ∧ LW (if t = 0 then q else T t)) ∧ (if t = 0 then q else T t).1.2.2.length ≤ 96
    by_cases h0 : t = 0
    · rw [if_pos h0, h0]
      exact ⟨⟨R0, rd_wf hn2 hr⟩, hq q hr⟩
    · rw [if_neg h0]
      exact ⟨⟨lo t ht h0 _ (h6 t ht).1.1, (h6 t ht).1.2⟩, (h6 t ht).2⟩
theorem rhabS_ok (hR : RST T P M) (hx : 0 ≤ x.toInt ∧ x.toInt ≤ 5) (hn2 : n ≤ 440) (hn : (zI M 633 2).toInt = (n : Int)) (hk : 33 ≤ e) (hq : ∀ q, rdB (bR M) n false ((prS (bR M) e).1 1) = .inl q → q.1.2.2.length ≤ 96) (H : Ev none (e + 3) 184 0 [some (.ref 633), some (.int x)] [] M v M' 0 0) (h28 : ∀ k, 28 ≤ k → k ≤ 30 → zI M' 633 k = zI M 633 k) : (∃ x, v = some (.int x) ∧ x.toInt = ansB (rdB (bR M) n false ((prS (bR M) e).1 1))) ∧ RST (newT T (x.toInt.toNat + 1) (rdB (bR M) n false ((prS (bR M) e).1 1))) P M' := by
  obtain ⟨m, em⟩ : ∃ m, m = x.toInt.toNat := ⟨_, rfl⟩
  rw [← em]
  obtain ⟨hv, hS', hF, _, _, _, R, lo⟩ := rhab_ok (kk := e) (t := m) (by omega) (by omega) hn2 hk hR.1 hn H
  obtain ⟨_, h2, ⟨h3, h4, h5⟩, h6⟩ := hR
  have hs : ∀ i, i < 2314 → rN M' 635 i = P i := fun i hi => by rw [hF.rn (by decide)]; exact h2 i hi
  have z : zI M' 633 28 = bdQ (T 0) ∧ zI M' 633 29 = mdQ (T 0) ∧ zI M' 633 30 = dyQ (T 0) := ⟨(h28 28 (by decide) (by decide)).trans h3, (h28 29 (by decide) (by decide)).trans h4, (h28 30 (by decide) (by decide)).trans h5⟩
  cases hr : rdB (bR M) n false ((prS (bR M) e).1 1) with
  | inr f =>
    rw [hr] at R hv
    exact ⟨hv, hS', hs, z, fun t ht => ⟨⟨R t ht _ (h6 t ht).1.1, (h6 t ht).1.2⟩, (h6 t ht).2⟩⟩
  | inl q =>
    rw [hr] at R hv
    refine ⟨hv, hS', hs, ?_, fun t ht => ?_⟩
    · show zI M' 633 28 = bdQ (if 0 = m + 1 then q else T 0) ∧ zI M' 633 29 = mdQ (if 0 = m + 1 then q else T 0) ∧ zI M' 633 30 = dyQ (if 0 = m + 1 then q else T 0)
      rw [if_neg (by omega)]
      exact z
    · show (TXR M' t (if t = m + 1 then q else T t) ∧ LW (if t = m + 1 then q else T t)) ∧ (if t = m + 1 then q else T t).1.2.2.length ≤ 96
      by_cases h0 : t = m + 1
      · rw [if_pos h0, h0]
        exact ⟨⟨R, rd_wf hn2 hr⟩, hq q hr⟩
      · rw [if_neg h0]
        exact ⟨⟨lo t ht h0 _ (h6 t ht).1.1, (h6 t ht).1.2⟩, (h6 t ht).2⟩
end TXTS
/-! WHAT STANDS, through the class's inner calls -/
section CTM
theorem gRep_l (n : Nat) (x : Int32) : (gRep n x).length = n := by
  induction n with
  | zero => rfl
  | succ n ih =>
    show (x :: gRep n x).length = _
    rw [List.length_cons, ih]
set_option maxRecDepth 200000 in
theorem tm_f : fiB 22 7 8 0 1 = true ∧ fiB 22 7 9 (-2147483648) 2147483647 = true ∧ fiB 22 7 10 0 1 = true ∧ fdB 22 7 7 8 = true ∧ fiB 8 1 0 4 16 = true ∧ fiB 8 1 1 4 16 = true := by refine ⟨?_, ?_, ?_, ?_, ?_, ?_⟩ <;> decide +kernel
set_option maxRecDepth 200000 in
theorem tm_37 : (match gNth sG 37 with
    | some (.inr (q, m, .inl [(0, m2, 1, [(x, y)])])) => Nat.beq q 1 && (Nat.beq m 1536 && (!Nat.beq q 2 && (Nat.beq m2 1536 && (decide (x ≤ -2147483648) && decide (2147483647 ≤ y)))))
    | _ => false) = true := by decide +kernel
set_option maxRecDepth 200000 in
theorem mx_1 : (gNth mRs 1).map (fun q => q.2.2.2.1) = some 5 := by decide +kernel
variable {a b g ci k g2 kd n d : Nat} {lo hi : Int} {x : Int32} {md : Md} {c : CN} {M M1 M' : Mem} {v : Option Value} {ws : List Value} {e L : Nat} {T : TS} {P : PK} {PI : Nat → PK}
theorem Ev.det2 {sc : Sta} {d me pc : Nat} {ls : Lo} {st : List Value} {M M1 M2 : Mem} {v1 v2 : Option Value} {c1 s1 c2 s2 : Nat} (h1 : Ev sc d me pc ls st M v1 M1 c1 s1) (h2 : Ev sc d me pc ls st M v2 M2 c2 s2) : v1 = v2 ∧ M1 = M2 := by
  obtain ⟨n1, h1⟩ := h1
  obtain ⟨n2, h2⟩ := h2
  have e1 := go_mono h1 n2
  have e2 := go_mono h2 n1
  rw [Nat.add_comm n2 n1] at e2
  have e3 := Option.some.inj (e1.symm.trans e2)
  exact ⟨congrArg (fun q => q.1) e3, congrArg (fun q => q.2.1) e3⟩
theorem inv_d (hc : cnOK sT sG FL0 c) (hB : invC c = true) (hm : (gNth mRs c.1).map (fun q => q.2.2.2.1) = some k) (hd : c.2.1 ≤ d) (ha : Two (taOK sT) c.2.2.1 ws) (hI : INV M) (H : Ev none d c.1 0 (gPad k (gArgs ws)) [] M v M' 0 0) : INV M' ∧ Frm sT c.2.2.2.2.2.1 M M' ∧ ∃ s ∈ c.2.2.2.2.2.2, csOK sT FL0 ws v M' s := by
  obtain ⟨v2, M2, h1, h2, h3, h4⟩ := inv_f hc hB hm hd ha hI
  obtain ⟨e1, e2⟩ := Ev.det2 H h1
  rw [e1, e2]
  exact ⟨h2, h3, h4⟩
theorem INV.frmT (h : INV M) (hT : TM sT sG M') (hF : Frm sT md M M') (hB : [24, 28, 32, 34].all (fun x => md.all (fun q => !mdIn (dp0 x) q.1 q.2)) = true) : INV M' := ⟨hT, fun x hx => by
  refine dp0_frm 0 x [] md M M' hF (fun q hq hm => ?_) (h.2 x hx)
  have h2 := List.all_eq_true.mp (List.all_eq_true.mp hB x (by simp only [List.mem_cons, List.not_mem_nil, or_false]; exact hx)) q hq
  rw [mdIn_iff.mpr hm] at h2
  cases h2⟩
theorem TM.wFi (hT : TM sT sG M) (ha : gNth sT a = some g) (hB : fiB g ci k lo hi = true) (h0 : lo ≤ x.toInt) (h1 : x.toInt ≤ hi) : TM sT sG (wF M a k x) ∧ Frm sT [(ci, k)] M (wF M a k x) := by
  obtain ⟨vs, y, g1, g2, _, _, _, h⟩ := hT.fnum ha hB
  have e : wF M a k x = gPut M a (.inr (ci, gPut vs k (.int x))) := by
    unfold wF
    rw [g1]
    dsimp only
    rw [g2]
  rw [e]
  exact ⟨h x h0 h1, Frm.fld g1 (by simp)⟩
theorem TM.wRr (hT : TM sT sG M) (ha : gNth sT a = some g) (hB : fdB g ci k g2 = true) (hb : gNth sT b = some g2) : TM sT sG (wR M a k b) ∧ Frm sT [(ci, k)] M (wR M a k b) := by
  unfold fdB at hB
  split at hB
  rotate_left
  · cases hB
  rename_i c fs e
  obtain ⟨h1, h2⟩ := and_t hB
  cases Nat.eq_of_beq_eq_true h1
  split at h2
  rotate_left
  · cases h2
  rename_i n e2
  cases Nat.eq_of_beq_eq_true h2
  obtain ⟨vs, m1, m2, m3⟩ := hT.obj ha e
  have eq : wR M a k b = gPut M a (.inr (ci, gPut vs k (.ref b))) := by
    unfold wR
    rw [m1]
  rw [eq]
  refine ⟨hT.oput ha e m1 e2 ?_, Frm.fld m1 (by simp)⟩
  show (∃ a, Value.ref b = .ref a ∧ gNth sT a = some (2 * g2 / 2)) ∨ _
  exact Or.inl ⟨b, rfl, by rw [show 2 * g2 / 2 = g2 by omega]; exact hb⟩
theorem TM.wAx (hT : TM sT sG M) (hS : SH M) (ha : gNth sT a = some g) (hW : wB g 1 n = true) (h : (match gNth sG g with
    | some (.inr (q, m, .inl [(0, m2, 1, [(x, y)])])) => Nat.beq q 1 && (Nat.beq m n && (!Nat.beq q 2 && (Nat.beq m2 n && (decide (x ≤ -2147483648) && decide (2147483647 ≤ y)))))
    | _ => false) = true) : TM sT sG (wA M a x) ∧ Frm sT [(1000 + g, 0)] M (wA M a x) := by
  obtain ⟨r1, r2⟩ := hS.row ha hW
  have e : wA M a x = gPut M a (.inl (1, .inl (gRep (zrw M a).length x))) := by
    unfold wA wL
    rw [r1]
  rw [e]
  refine ⟨hT.putrow (n := n) (lo := -2147483648) (hi := 2147483647) ha h (by rw [gRep_l, r2]) (fun _ x _ => i32_any x), Frm.row r1 ha (by simp)⟩
theorem LND.zi (hT : TM sT sG M) (hL : gNth sT L = some 8) : (4 ≤ (zI M L 0).toInt ∧ (zI M L 0).toInt ≤ 16) ∧ 4 ≤ (zI M L 1).toInt ∧ (zI M L 1).toInt ≤ 16 := by
  obtain ⟨vs, y, g1, g2, _, h0, h1, _⟩ := hT.fnum hL tm_f.2.2.2.2.1
  obtain ⟨vs2, y2, g3, g4, _, h2, h3, _⟩ := hT.fnum hL tm_f.2.2.2.2.2
  have e0 : zI M L 0 = y := by
    unfold zI fV
    rw [g1]
    dsimp only
    rw [g2]
  have e1 : zI M L 1 = y2 := by
    unfold zI fV
    rw [g3]
    dsimp only
    rw [g4]
  rw [e0, e1]
  exact ⟨⟨h0, h1⟩, h2, h3⟩
/-- enter keeps what stands -/
theorem enter_inv (hI : INV M) (hX : FX M) (hL : gNth sT L = some 8) (he : 4 ≤ e) (H : Ev none e 54 0 [some (.ref 104), some (.ref L)] [] M v M' 0 0) : INV M' := by
  have hS : SQ M := ⟨hI.1.sh, hX⟩
  obtain ⟨e1, v1, M1, he1, H1, H⟩ := ent_0 hS hL H
  have S0 : SQ (wR M 104 7 L) := hS.kr_22_7 hL
  obtain ⟨w1, w2⟩ := hI.1.wRr qa_104 tm_f.2.2.2.1 hL
  have I0 : INV (wR M 104 7 L) := hI.frmT w1 w2 (by decide +kernel)
  obtain ⟨q1, q2⟩ := LND.zi hI.1 hL
  obtain ⟨I1, F1, s, hs, hcs⟩ := inv_d (c := kX0_shape) (k := 5) (ws := [.ref 105, .int (zI M L 0), .int (zI M L 1)]) kX0_shape_ok (by decide +kernel) mx_1 (by show 2 ≤ e1; omega) (Two.mk rfl (Two.mk ⟨_, rfl, q1⟩ (Two.mk ⟨_, rfl, q2⟩ trivial))) I0 H1
  have hv : v1 = none := by
    have hs : s ∈ [(none, [], [], [], [])] := hs
    rw [List.mem_singleton] at hs
    subst hs
    cases v1 with
    | none => rfl
    | some w => exact hcs.1.elim
  rw [hv] at H
  have S1 : SQ M1 := ⟨I1.1.sh, S0.2.frm S0.1 F1 (by decide +kernel)⟩
  obtain ⟨_, eM⟩ := ent_26 S1 hL H
  obtain ⟨t1, f1⟩ := I1.1.wFi (x := 0) qa_104 tm_f.1 (by decide) (by decide)
  obtain ⟨t2, f2⟩ := t1.wFi (x := -1) qa_104 tm_f.2.1 (by decide) (by decide)
  obtain ⟨t3, f3⟩ := t2.wFi (x := 0) qa_104 tm_f.2.2.1 (by decide) (by decide)
  obtain ⟨t4, f4⟩ := t3.wAx (x := -1) t3.sh qa_128 qw_37 tm_37
  have eM2 : M' = wA (wF (wF (wF M1 104 8 0) 104 9 (-1)) 104 10 0) 128 (-1) := eM
  rw [eM2]
  have F : Frm sT [(7, 8), (7, 9), (7, 10), (1037, 0)] M1 (wA (wF (wF (wF M1 104 8 0) 104 9 (-1)) 104 10 0) 128 (-1)) := (((f1.more (by simp)).trans (f2.more (by simp))).trans (f3.more (by simp))).trans (f4.more (by simp))
  exact I1.frmT t4 F (by decide +kernel)
end CTM
