/-! THE TEXTS between calls: law and habit of both sides -/
noncomputable def txr (M : Mem) (i : Nat) : Nat := if i = 0 then fR M 104 2 else if i = 7 then fR M 104 3 else oN M 109 (i - 1)
/-- the texts are unlike each other -/
def TXd (M : Mem) : Prop := ∀ i j, i < 8 → j < 8 → txr M i = txr M j → i = j
noncomputable def newT (T : TS) (t : Nat) (r : PLn) : TS := match r with
  | .inr _ => T
  | .inl q => fun i => if i = t then q else T i
def swN (a b i : Nat) : Nat := if i = a then b else if i = b then a else i
section TXTS
variable {e n t sp : Nat} {B : Nat → Int32} {T T' : TS} {P : PK} {PI : Nat → PK} {M M1 M' : Mem} {v : Option Value} {x : Int32} {F : Nat → Nat → Prop} {W O : Nat → Prop}
theorem swN_a {a b : Nat} : swN a b a = b := if_pos rfl
theorem swN_b {a b : Nat} : swN a b b = a := by
  unfold swN
  by_cases h : b = a
  · rw [if_pos h]; exact h
  · rw [if_neg h, if_pos rfl]
theorem swN_o {a b i : Nat} (h1 : i ≠ a) (h2 : i ≠ b) : swN a b i = i := by
  unfold swN
  rw [if_neg h1, if_neg h2]
theorem swN_2 {a b i : Nat} : swN a b (swN a b i) = i := by
  by_cases h1 : i = a
  · rw [h1, swN_a, swN_b]
  · by_cases h2 : i = b
    · rw [h2, swN_b, swN_a]
    · rw [swN_o h1 h2, swN_o h1 h2]
theorem swN_lt {a b i n : Nat} (ha : a < n) (hb : b < n) (hi : i < n) : swN a b i < n := by
  unfold swN
  split
  · exact hb
  · split
    · exact ha
    · exact hi
theorem TXd.sw {a b : Nat} (h : TXd M) (ha : a < 8) (hb : b < 8) (e : ∀ i, i < 8 → txr M' i = txr M (swN a b i)) : TXd M' := fun i j hi hj q => by
  rw [e i hi, e j hj] at q
  have r := h _ _ (swN_lt ha hb hi) (swN_lt ha hb hj) q
  have s : swN a b (swN a b i) = swN a b (swN a b j) := by rw [r]
  rw [swN_2, swN_2] at s
  exact s
theorem TXd.same (h : TXd M) (h2 : fR M' 104 2 = fR M 104 2) (h3 : fR M' 104 3 = fR M 104 3) (ho : ∀ j, oN M' 109 j = oN M 109 j) : TXd M' := fun i j hi hj q => h i j hi hj (by
  unfold txr at q ⊢
  rw [h2, h3, ho, ho] at q
  exact q)
theorem TXd.frm {md : Md} (h : TXd M) (hS : SH M) (hF : Frm sT md M M') (hB : ((!mdIn md 7 2) && ((!mdIn md 7 3) && mdC md [1027])) = true) : TXd M' := by
  obtain ⟨b1, hB⟩ := and_t hB
  obtain ⟨b2, b3⟩ := and_t hB
  have hZ := frm_fz hS hF
  have g : gpB 109 [27] = true := by
    unfold gpB
    rw [qa_109]
    rfl
  exact h.same (hZ.fr (one_F qa_104 qo_22 b1)) (hZ.fr (one_F qa_104 qo_22 b2)) (fun j => hZ.on (gpB_W g b3))
theorem tx_far {s : Nat} (ht : gNth sT t = some 28) (hs : gNth sT s = some 28) (h : t ≠ s) : t + 9 ≤ s ∨ s + 9 ≤ t := by
  rcases tx_cases ht with h1 | h1 | h1 | h1 | h1 | h1 | h1 | h1 <;> rcases tx_cases hs with h2 | h2 | h2 | h2 | h2 | h2 | h2 | h2 <;> omega
theorem tx_r (ht : gNth sT t = some 28) : 110 ≤ t ∧ t + 8 ≤ 191 ∧ (t + 8 < 128 ∨ 138 ≤ t) := by
  rcases tx_cases ht with h1 | h1 | h1 | h1 | h1 | h1 | h1 | h1 <;> omega
/-- a text is read -/
theorem CST.txt (h : CST T P PI M) (hS : SQ M') (hF : FZ F W O M M') (hsp : gNth sT sp = some 28) (f : ∀ a k, F a k → (a = 104 ∧ (k = 2 ∨ k = 3)) ∨ a = 1 ∨ (a = 0 ∧ k = 15) ∨ a = 3 ∨ a = sp) (fw : ∀ a, W a → (4 ≤ a ∧ a ≤ 7) ∨ (sp + 1 ≤ a ∧ a ≤ sp + 8)) (fo : ∀ a, O a → a = 109) (hT : TXc T' M') : CST T' P PI M' := by
  obtain ⟨a1, ⟨a2, a3, a4⟩, a5, a6, a7, a8, ⟨a9, a10⟩, a11⟩ := h
  obtain ⟨r1, r2, r3⟩ := tx_r hsp
  have nF : ∀ a k, ¬ ((a = 104 ∧ (k = 2 ∨ k = 3)) ∨ a = 1 ∨ (a = 0 ∧ k = 15) ∨ a = 3 ∨ a = sp) → ¬ F a k := fun a k q r => q (f a k r)
  have nW : ∀ a, ¬ ((4 ≤ a ∧ a ≤ 7) ∨ (sp + 1 ≤ a ∧ a ≤ sp + 8)) → ¬ W a := fun a q r => q (fw a r)
  have nO : ∀ a, a ≠ 109 → ¬ O a := fun a q r => q (fo a r)
  refine ⟨hS, ⟨(hF.fr (nF _ _ (by omega))).trans a2, (hF.fr (nF _ _ (by omega))).trans a3, fun k hk => (hF.on (nO _ (by decide))).trans (a4 k hk)⟩, hT, fun m hm => (hF.on (nO _ (by decide))).trans (a6 m hm), a7.fz hF (nF _ _ (by omega)) (nF _ _ (by omega)) (fun a h1 h2 => nW _ (by omega)), fun L hL => ?_, ⟨a9, a10.fz hF (fun a k h1 h2 => nF _ _ (by omega)) (fun a h1 h2 => nW _ (by omega)) (nO _ (by decide)) (a8 8 lnd_8).2 a9.n24 a9.k60⟩, fun k hk hr => ?_⟩
  · have hc := ld_cases hL
    exact ⟨fun k hk => (hF.on (nO _ (by omega))).trans ((a8 L hL).1 k hk), (a8 L hL).2.on (fun j => hF.on (nO _ (by omega)))⟩
  · have er : rN M' 340 k = rN M 340 k := hF.rn (nW _ (by omega))
    rw [er] at hr
    obtain ⟨b1, b2⟩ := a11 k hk hr
    have hi := lnd_im k hk
    exact ⟨b1, b2.fz hF (fun a k q1 q2 => nF _ _ (by unfold imgA at q1; omega)) (fun a q1 q2 => nW _ (by unfold imgA at q1; omega)) (nO _ (by unfold imgA; omega)) (a8 _ hi).2 b1.n24 b1.k60⟩
theorem fRe_in {a k : Nat} (h : (a, k) ∈ fRe sp) : (a = 104 ∧ (k = 2 ∨ k = 3)) ∨ a = 1 ∨ (a = 0 ∧ k = 15) ∨ a = 3 ∨ a = sp := by
  unfold fRe fTx at h
  simp only [List.mem_append, List.mem_cons, Prod.mk.injEq, List.not_mem_nil, or_false] at h
  omega
theorem wTx_in {a : Nat} (h : a ∈ wTx sp) : (4 ≤ a ∧ a ≤ 7) ∨ (sp + 1 ≤ a ∧ a ≤ sp + 8) := by
  unfold wTx at h
  simp only [List.mem_cons, List.not_mem_nil, or_false] at h
  omega
/-- another text than the one that is read -/
theorem TXT.oth {q : TQ} (h : TXT M t q) (ht : gNth sT t = some 28) (hsp : gNth sT sp = some 28) (hne : t ≠ sp) (hF : FZ F W O M M') (f : ∀ a k, F a k → (a = 104 ∧ (k = 2 ∨ k = 3)) ∨ a = 1 ∨ (a = 0 ∧ k = 15) ∨ a = 3 ∨ a = sp) (fw : ∀ a, W a → (4 ≤ a ∧ a ≤ 7) ∨ (sp + 1 ≤ a ∧ a ≤ sp + 8)) : TXT M' t q := by
  obtain ⟨r1, r2, r3⟩ := tx_r ht
  have hd := tx_far ht hsp hne
  exact h.fz hF (fun k r => by have := f _ _ r; omega) (fun k k1 k8 r => by have := fw _ r; omega)
theorem TXT.l96 {q : TQ} (h : TXT M t q) : q.1.2.2.length ≤ 96 := h.2.1.2.1
theorem lawS_ok (h : CST T P PI M) (hd : TXd M) (hn : (zI M 1 1).toInt = (n : Int)) (hn2 : n ≤ 440) (hB : ∀ k, k < n → bC M k = B k) (H : Ev none (e + 3) 85 0 [some (.ref 0), none, none] [] M v M' 0 0) : (∃ x, v = some (.int x) ∧ x.toInt = ansB (rdB B n true ((prS B e).1 1))) ∧ CST (newT T 0 (rdB B n true ((prS B e).1 1))) P PI M' ∧ TXd M' ∧ ∀ q, rdB B n true ((prS B e).1 1) = .inl q → q.1.2.2.length ≤ 96 := by
  obtain ⟨hv, hS', hF, _, _, R⟩ := law_ok h.1 hn hn2 hB H
  obtain ⟨t3, t2⟩ := tN h.1
  have hZ : FZ (fun a k => (a, k) ∈ fRe (fR M 104 3)) (fun a => a ∈ wTx (fR M 104 3)) noO M M' := ⟨fun a k q => hF.1 a k q, fun b q => hF.2.1 b q, fun b _ => hF.2.2 b⟩
  have on : ∀ j, oN M' 109 j = oN M 109 j := fun j => hF.on
  obtain ⟨⟨c1, c2⟩, c3⟩ := h.2.2.1
  have ha : ∀ i, i < 6 → TXT M' (oN M' 109 i) (T (i + 1)) := fun i hi => by
    rw [on]
    refine (c3 i hi).1.oth (hab_t h.1.1 hi) t3 (fun q => ?_) hZ (fun a k => fRe_in) (fun a => wTx_in)
    have := hd (i + 1) 7 (by omega) (by decide) (by
      unfold txr
      rw [if_neg (by omega), if_neg (by omega), if_neg (by decide), if_pos rfl]
      exact q)
    omega
  cases hr : rdB B n true ((prS B e).1 1) with
  | inr f =>
    rw [hr] at R hv
    obtain ⟨R1, R2⟩ := R
    refine ⟨hv, h.txt hS' hZ t3 (fun a k => fRe_in) (fun a => wTx_in) (fun _ q => q.elim) ⟨⟨?_, c2⟩, fun i hi => ⟨ha i hi, (c3 i hi).2⟩⟩, hd.same R1 R2 on, fun q hq => by cases hq⟩
    rw [R1]
    refine c1.oth t2 t3 (fun q => ?_) hZ (fun a k => fRe_in) (fun a => wTx_in)
    have := hd 0 7 (by decide) (by decide) q
    cases this
  | inl q =>
    rw [hr] at R hv
    obtain ⟨R1, R2, R3⟩ := R
    refine ⟨hv, h.txt hS' hZ t3 (fun a k => fRe_in) (fun a => wTx_in) (fun _ q => q.elim) ⟨⟨?_, ?_⟩, fun i hi => ?_⟩, ?_, fun q' hq => by cases hq; exact R3.l96⟩
    · rw [R1]
      exact R3
    · exact rd_wf hn2 hr
    · show TXT M' (oN M' 109 i) (if i + 1 = 0 then q else T (i + 1)) ∧ LW (if i + 1 = 0 then q else T (i + 1))
      rw [if_neg (by omega)]
      exact ⟨ha i hi, (c3 i hi).2⟩
    · refine hd.sw (a := 0) (b := 7) (by decide) (by decide) (fun i hi => ?_)
      by_cases h0 : i = 0
      · rw [h0, swN_a]
        exact R1
      · by_cases h7 : i = 7
        · rw [h7, swN_b]
          exact R2
        · rw [swN_o h0 h7]
          unfold txr
          rw [if_neg h0, if_neg h7, if_neg h0, if_neg h7, on]
theorem habS_ok (h : CST T P PI M) (hd : TXd M) (hx : 0 ≤ x.toInt ∧ x.toInt ≤ 5) (hn : (zI M 1 1).toInt = (n : Int)) (hn2 : n ≤ 440) (hB : ∀ k, k < n → bC M k = B k) (H : Ev none (e + 3) 86 0 [some (.ref 0), some (.int x), none, none] [] M v M' 0 0) : (∃ x, v = some (.int x) ∧ x.toInt = ansB (rdB B n false ((prS B e).1 1))) ∧ CST (newT T (x.toInt.toNat + 1) (rdB B n false ((prS B e).1 1))) P PI M' ∧ TXd M' ∧ ∀ q, rdB B n false ((prS B e).1 1) = .inl q → q.1.2.2.length ≤ 96 := by
  obtain ⟨hv, hS', hF1, hF2, hF3, _, _, hl, R⟩ := hab_ok h.1 hx hn hn2 hB H
  obtain ⟨t3, t2⟩ := tN h.1
  have hZ : FZ (fun a k => (a, k) ∈ fRe (fR M 104 3)) (fun a => a ∈ wTx (fR M 104 3)) (fun a => a = 109) M M' := ⟨hF1, hF2, hF3⟩
  obtain ⟨⟨c1, c2⟩, c3⟩ := h.2.2.1
  obtain ⟨m, em⟩ : ∃ m, m = x.toInt.toNat := ⟨_, rfl⟩
  have hm6 : m < 6 := by omega
  have ex : x.toNatClampNeg = m := cl_n (by omega)
  have hla : TXT M' (fR M' 104 2) (T 0) := by
    rw [hl]
    refine c1.oth t2 t3 (fun q => ?_) hZ (fun a k => fRe_in) (fun a => wTx_in)
    have := hd 0 7 (by decide) (by decide) q
    cases this
  have ha : ∀ i, i < 6 → oN M' 109 i = oN M 109 i → TXT M' (oN M' 109 i) (T (i + 1)) := fun i hi on => by
    rw [on]
    refine (c3 i hi).1.oth (hab_t h.1.1 hi) t3 (fun q => ?_) hZ (fun a k => fRe_in) (fun a => wTx_in)
    have := hd (i + 1) 7 (by omega) (by decide) (by
      unfold txr
      rw [if_neg (by omega), if_neg (by omega), if_neg (by decide), if_pos rfl]
      exact q)
    omega
  rw [← em]
  cases hr : rdB B n false ((prS B e).1 1) with
  | inr f =>
    rw [hr] at R hv
    obtain ⟨R1, R2⟩ := R
    have on : ∀ j, oN M' 109 j = oN M 109 j := fun j => by unfold oN; rw [R1]
    exact ⟨hv, h.txt hS' hZ t3 (fun a k => fRe_in) (fun a => wTx_in) (fun _ q => q) ⟨⟨hla, c2⟩, fun i hi => ⟨ha i hi (on i), (c3 i hi).2⟩⟩, hd.same hl R2 on, fun q hq => by cases hq⟩
  | inl q =>
    rw [hr] at R hv
    obtain ⟨R1, R2, R3⟩ := R
    rw [ex] at R1
    have ln : (roL M 109).length = 6 := (h.1.1.ror qa_109 qz_27).2.1
    have on : ∀ j, j ≠ m → oN M' 109 j = oN M 109 j := fun j hj => by
      unfold oN
      rw [R1, nth_put, if_neg (fun q => hj q.1)]
    have om : oN M' 109 m = fR M 104 3 := by
      unfold oN
      rw [R1, nth_put, if_pos ⟨rfl, by omega⟩]
      rfl
    have eo : oI M 109 x = oN M 109 m := by unfold oI; rw [ex]
    rw [eo] at R2
    refine ⟨hv, h.txt hS' hZ t3 (fun a k => fRe_in) (fun a => wTx_in) (fun _ q => q) ⟨⟨?_, ?_⟩, fun i hi => ?_⟩, ?_, fun q' hq => by cases hq; exact R3.l96⟩
    · show TXT M' (fR M' 104 2) (if 0 = m + 1 then q else T 0)
      rw [if_neg (by omega)]
      exact hla
    · show LW (if 0 = m + 1 then q else T 0)
      rw [if_neg (by omega)]
      exact c2
    · show TXT M' (oN M' 109 i) (if i + 1 = m + 1 then q else T (i + 1)) ∧ LW (if i + 1 = m + 1 then q else T (i + 1))
      by_cases him : i = m
      · rw [if_pos (by omega), him, om]
        exact ⟨R3, rd_wf hn2 hr⟩
      · rw [if_neg (by omega)]
        exact ⟨ha i hi (on i him), (c3 i hi).2⟩
    · refine hd.sw (a := m + 1) (b := 7) (by omega) (by decide) (fun i hi => ?_)
      by_cases h0 : i = m + 1
      · rw [h0, swN_a]
        unfold txr
        rw [if_neg (by omega), if_neg (by omega), if_neg (by decide), if_pos rfl]
        exact om
      · by_cases h7 : i = 7
        · rw [h7, swN_b]
          unfold txr
          rw [if_neg (by decide), if_pos rfl, if_neg (by omega), if_neg (by omega)]
          exact R2
        · rw [swN_o h0 h7]
          unfold txr
          by_cases hz : i = 0
          · rw [if_pos hz, if_pos hz]
            exact hl
          · rw [if_neg hz, if_neg h7, if_neg hz, if_neg h7, on _ (by omega)]
/-! the reference's -/
theorem rlawS_ok (hR : RST T P M) (hn2 : n ≤ 440) (hn : (zI M 633 2).toInt = (n : Int)) (hk : 33 ≤ e) (hq : ∀ q, rdB (bR M) n true ((prS (bR M) e).1 1) = .inl q → q.1.2.2.length ≤ 96) (H : Ev none (e + 3) 183 0 [some (.ref 633), none] [] M v M' 0 0) : (∃ x, v = some (.int x) ∧ x.toInt = ansB (rdB (bR M) n true ((prS (bR M) e).1 1))) ∧ RST (newT T 0 (rdB (bR M) n true ((prS (bR M) e).1 1))) P M' := by
  obtain ⟨hv, hS', hF, _, _, _, R, lo⟩ := rlaw_ok (kk := e) hn2 hk hR.1 hn H
  obtain ⟨_, h2, ⟨h3, h4, h5⟩, h6⟩ := hR
  have hs : ∀ i, i < 2314 → rN M' 635 i = P i := fun i hi => by rw [hF.rn (by decide)]; exact h2 i hi
  cases hr : rdB (bR M) n true ((prS (bR M) e).1 1) with
  | inr f =>
    rw [hr] at R hv
    obtain ⟨R1, R2, R3, R4⟩ := R
    exact ⟨hv, hS', hs, ⟨R1.trans h3, R2.trans h4, R3.trans h5⟩, fun t ht => ⟨⟨R4 t ht _ (h6 t ht).1.1, (h6 t ht).1.2⟩, (h6 t ht).2⟩⟩
  | inl q =>
    rw [hr] at R hv
    obtain ⟨R0, R1, R2, R3⟩ := R
    refine ⟨hv, hS', hs, ⟨R1, R2, R3⟩, fun t ht => ?_⟩
    show (TXR M' t (if t = 0 then q else T t) ∧ LW (if t = 0 then q else T t)) ∧ (if t = 0 then q else T t).1.2.2.length ≤ 96
    by_cases h0 : t = 0
    · rw [if_pos h0, h0]
      exact ⟨⟨R0, rd_wf hn2 hr⟩, hq q hr⟩
    · rw [if_neg h0]
      exact ⟨⟨lo t ht h0 _ (h6 t ht).1.1, (h6 t ht).1.2⟩, (h6 t ht).2⟩
theorem rhabS_ok (hR : RST T P M) (hx : 0 ≤ x.toInt ∧ x.toInt ≤ 5) (hn2 : n ≤ 440) (hn : (zI M 633 2).toInt = (n : Int)) (hk : 33 ≤ e) (hq : ∀ q, rdB (bR M) n false ((prS (bR M) e).1 1) = .inl q → q.1.2.2.length ≤ 96) (H : Ev none (e + 3) 184 0 [some (.ref 633), some (.int x)] [] M v M' 0 0) (h28 : ∀ k, 28 ≤ k → k ≤ 30 → zI M' 633 k = zI M 633 k) : (∃ x, v = some (.int x) ∧ x.toInt = ansB (rdB (bR M) n false ((prS (bR M) e).1 1))) ∧ RST (newT T (x.toInt.toNat + 1) (rdB (bR M) n false ((prS (bR M) e).1 1))) P M' := by
  obtain ⟨m, em⟩ : ∃ m, m = x.toInt.toNat := ⟨_, rfl⟩
  rw [← em]
  obtain ⟨hv, hS', hF, _, _, _, R, lo⟩ := rhab_ok (kk := e) (t := m) (by omega) (by omega) hn2 hk hR.1 hn H
  obtain ⟨_, h2, ⟨h3, h4, h5⟩, h6⟩ := hR
  have hs : ∀ i, i < 2314 → rN M' 635 i = P i := fun i hi => by rw [hF.rn (by decide)]; exact h2 i hi
  have z : zI M' 633 28 = bdQ (T 0) ∧ zI M' 633 29 = mdQ (T 0) ∧ zI M' 633 30 = dyQ (T 0) := ⟨(h28 28 (by decide) (by decide)).trans h3, (h28 29 (by decide) (by decide)).trans h4, (h28 30 (by decide) (by decide)).trans h5⟩
  cases hr : rdB (bR M) n false ((prS (bR M) e).1 1) with
  | inr f =>
    rw [hr] at R hv
    exact ⟨hv, hS', hs, z, fun t ht => ⟨⟨R t ht _ (h6 t ht).1.1, (h6 t ht).1.2⟩, (h6 t ht).2⟩⟩
  | inl q =>
    rw [hr] at R hv
    refine ⟨hv, hS', hs, ?_, fun t ht => ?_⟩
    · show zI M' 633 28 = bdQ (if 0 = m + 1 then q else T 0) ∧ zI M' 633 29 = mdQ (if 0 = m + 1 then q else T 0) ∧ zI M' 633 30 = dyQ (if 0 = m + 1 then q else T 0)
      rw [if_neg (by omega)]
      exact z
    · show (TXR M' t (if t = m + 1 then q else T t) ∧ LW (if t = m + 1 then q else T t)) ∧ (if t = m + 1 then q else T t).1.2.2.length ≤ 96
      by_cases h0 : t = m + 1
      · rw [if_pos h0, h0]
        exact ⟨⟨R, rd_wf hn2 hr⟩, hq q hr⟩
      · rw [if_neg h0]
        exact ⟨⟨lo t ht h0 _ (h6 t ht).1.1, (h6 t ht).1.2⟩, (h6 t ht).2⟩
end TXTS
