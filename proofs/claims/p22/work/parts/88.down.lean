/-! BY HAND: reading texts, the reference: writeDown -/
/-- m steps from place k on take the pile of answers from n to n2 -/
def runS : Nat → List Int32 → Nat → Int → Int → Prop
  | 0, _, _, n, n2 => n = n2
  | m + 1, l, k, n, n2 => ∃ w, gNth l k = some w ∧ ((w = 20 ∧ 1 ≤ n ∧ runS m l (k + 1) n n2) ∨ (w ≠ 20 ∧ (w = 21 ∨ w = 22) ∧ 2 ≤ n ∧ runS m l (k + 1) (n - 1) n2) ∨ (w ≠ 20 ∧ w ≠ 21 ∧ w ≠ 22 ∧ n < 60 ∧ runS m l (k + 1) (n + 1) n2))
theorem runS.ok {l : List Int32} : ∀ {m k : Nat} {n n2 : Int}, runS m l k n n2 → okS m l k n := by
  intro m
  induction m with
  | zero => intro k n n2 _; trivial
  | succ m ih =>
    intro k n n2 h
    obtain ⟨w, h1, h2⟩ := h
    refine ⟨w, h1, ?_⟩
    rcases h2 with ⟨a, b, c⟩ | ⟨a, b, c, d⟩ | ⟨a, b, c, d, e⟩
    · exact Or.inl ⟨a, b, ih c⟩
    · exact Or.inr (Or.inl ⟨a, b, c, ih d⟩)
    · exact Or.inr (Or.inr ⟨a, b, c, d, ih e⟩)
theorem runS.put {l : List Int32} {x : Nat} {v : Int32} : ∀ {m k : Nat} {n n2 : Int}, runS m l k n n2 → (k + m ≤ x) → runS m (gPut l x v) k n n2 := by
  intro m
  induction m with
  | zero => intro k n n2 h _; exact h
  | succ m ih =>
    intro k n n2 h hx
    obtain ⟨w, h1, h2⟩ := h
    refine ⟨w, by rw [nth_put, if_neg (by omega)]; exact h1, ?_⟩
    rcases h2 with ⟨a, b, c⟩ | ⟨a, b, c, d⟩ | ⟨a, b, c, d, e⟩
    · exact Or.inl ⟨a, b, ih c (by omega)⟩
    · exact Or.inr (Or.inl ⟨a, b, c, ih d (by omega)⟩)
    · exact Or.inr (Or.inr ⟨a, b, c, d, ih e (by omega)⟩)
theorem runS.snoc {l : List Int32} : ∀ {m k : Nat} {n n2 n3 : Int}, runS m l k n n2 → runS 1 l (k + m) n2 n3 → runS (m + 1) l k n n3 := by
  intro m
  induction m with
  | zero =>
    intro k n n2 n3 h h2
    have h : n = n2 := h
    rw [h]
    exact h2
  | succ m ih =>
    intro k n n2 n3 h h3
    obtain ⟨w, h1, h2⟩ := h
    refine ⟨w, h1, ?_⟩
    rw [show k + (m + 1) = k + 1 + m by omega] at h3
    rcases h2 with ⟨a, b, c⟩ | ⟨a, b, c, d⟩ | ⟨a, b, c, d, e⟩
    · exact Or.inl ⟨a, b, ih c h3⟩
    · exact Or.inr (Or.inl ⟨a, b, c, ih d h3⟩)
    · exact Or.inr (Or.inr ⟨a, b, c, d, ih e h3⟩)
def entP (lp : List Int32) (p : Nat) : Prop := ∀ i, i < p → ∃ w : Int32, gNth lp i = some w ∧ (w = 20 ∨ w = 21 ∨ w = 22 ∨ w = 23)
noncomputable def binN (lp : List Int32) : Nat → Nat
  | 0 => 0
  | p + 1 => binN lp p + (if gNth lp p = some 21 ∨ gNth lp p = some 22 then 1 else 0)
def hasO (lp : List Int32) (p : Nat) : Prop := ∃ k, k < p ∧ gNth lp k = some 23
/-- what stands while a line's steps, from m on, are read; b: an answer is ready -/
def JJ (ls0 : List Int32) (m b : Nat) (M : Mem) (s p o : Nat) (ls lp : List Int32) : Prop := TM sT sG M ∧ (∃ S P O : Int32, Cst M S P O ls lp ∧ S.toInt = (s : Int) ∧ P.toInt = (p : Int) ∧ O.toInt = (o : Int)) ∧ s + p + b ≤ 2 * o ∧ m ≤ s ∧ (∃ dd : Nat, runS (s - m) ls (1400 + m) 0 (dd : Int) ∧ dd = b + binN lp p ∧ dd ≤ o) ∧ entP lp p ∧ ∀ i, i < 1400 + m → gNth ls i = gNth ls0 i
theorem JJ.num {ls0 ls lp : List Int32} {m b s p o : Nat} {M : Mem} (h : JJ ls0 m b M s p o ls lp) : o ≤ 40 ∧ s ≤ 80 ∧ p ≤ 80 ∧ ls.length = 1600 ∧ lp.length = 100 := by
  obtain ⟨hT, ⟨S, P, O, hc, h1, h2, h3⟩, h4, _⟩ := h
  obtain ⟨S2, P2, O2, ls2, lp2, c, q1, q2, _, _, _, _, _, q3⟩ := hT.cst
  obtain ⟨rfl, rfl, rfl, rfl, rfl⟩ := hc.det c
  exact ⟨by omega, by omega, by omega, q1, q2⟩
theorem JJ.frm {ls0 ls lp : List Int32} {m b s p o : Nat} {M M' : Mem} {md : Md} (h : JJ ls0 m b M s p o ls lp) (hT : TM sT sG M') (hF : Frm sT md M M') (hm : (!(mdIn md 11 19 || mdIn md 11 20 || mdIn md 11 21 || mdIn md 1073 0 || mdIn md 1076 0)) = true) : JJ ls0 m b M' s p o ls lp := by
  obtain ⟨_, ⟨S, P, O, hc, h1, h2, h3⟩, h4⟩ := h
  exact ⟨hT, ⟨S, P, O, hc.frm hF hm, h1, h2, h3⟩, h4⟩
/-- an answer's step is written -/
theorem JJ.atom {ls0 ls lp : List Int32} {m s p o : Nat} {M M' : Mem} {w S P O : Int32} (h : JJ ls0 m 0 M s p o ls lp) (w0 : w ≠ 20) (w1 : w ≠ 21) (w2 : w ≠ 22) (ho : ∃ dd : Nat, runS (s - m) ls (1400 + m) 0 (dd : Int) ∧ dd = binN lp p ∧ dd + 1 ≤ o) (hs : s + p + 2 ≤ 2 * o) (hT : TM sT sG M') (hc : Cst M' S P O (gPut ls (1400 + s) w) lp) (e1 : S.toInt = (s : Int) + 1) (e2 : P.toInt = (p : Int)) (e3 : O.toInt = (o : Int)) : JJ ls0 m 1 M' (s + 1) p o (gPut ls (1400 + s) w) lp := by
  obtain ⟨hn1, hn2, hn3, ll, pl⟩ := h.num
  obtain ⟨_, _, _, h5, _, h7, h8⟩ := h
  obtain ⟨dd, r1, r2, r3⟩ := ho
  refine ⟨hT, ⟨S, P, O, hc, by omega, e2, e3⟩, by omega, by omega, ⟨dd + 1, ?_, by omega, r3⟩, h7, fun i hi => by rw [nth_put, if_neg (by omega)]; exact h8 i hi⟩
  rw [show s + 1 - m = (s - m) + 1 by omega]
  refine (r1.put (by omega)).snoc ⟨w, by rw [nth_put, if_pos ⟨by omega, by omega⟩], Or.inr (Or.inr ⟨w0, w1, w2, by omega, ?_⟩)⟩
  show (dd : Int) + 1 = ((dd + 1 : Nat) : Int)
  omega
/-- the top of the pile is written -/
theorem JJ.pop {ls0 ls lp : List Int32} {m s p o : Nat} {M M' : Mem} {w S P O : Int32} (h : JJ ls0 m 1 M s (p + 1) o ls lp) (hw : gNth lp p = some w) (w3 : w ≠ 23) (hT : TM sT sG M') (hc : Cst M' S P O (gPut ls (1400 + s) w) lp) (e1 : S.toInt = (s : Int) + 1) (e2 : P.toInt = (p : Int)) (e3 : O.toInt = (o : Int)) : JJ ls0 m 1 M' (s + 1) p o (gPut ls (1400 + s) w) lp := by
  obtain ⟨hn1, hn2, hn3, ll, pl⟩ := h.num
  obtain ⟨_, _, h4, h5, ⟨dd, r1, r2, r3⟩, h7, h8⟩ := h
  obtain ⟨w', q1, q2⟩ := h7 p (by omega)
  cases hw.symm.trans q1
  have hb : binN lp (p + 1) = binN lp p + (if gNth lp p = some 21 ∨ gNth lp p = some 22 then 1 else 0) := rfl
  have h7' : entP lp p := fun i hi => h7 i (by omega)
  have h8' : ∀ i, i < 1400 + m → gNth (gPut ls (1400 + s) w) i = gNth ls0 i := fun i hi => by rw [nth_put, if_neg (by omega)]; exact h8 i hi
  rcases q2 with rfl | hq
  · rw [if_neg (by rw [hw]; decide)] at hb
    refine ⟨hT, ⟨S, P, O, hc, by omega, e2, e3⟩, by omega, by omega, ⟨dd, ?_, by omega, r3⟩, h7', h8'⟩
    rw [show s + 1 - m = (s - m) + 1 by omega]
    exact (r1.put (by omega)).snoc ⟨20, by rw [nth_put, if_pos ⟨by omega, by omega⟩], Or.inl ⟨rfl, by omega, rfl⟩⟩
  · have hw2 : w = 21 ∨ w = 22 := by
      rcases hq with h | h | h
      · exact Or.inl h
      · exact Or.inr h
      · exact absurd h w3
    have hw20 : w ≠ 20 := by rcases hw2 with rfl | rfl <;> decide
    rw [if_pos (by rw [hw]; rcases hw2 with rfl | rfl; exact Or.inl rfl; exact Or.inr rfl)] at hb
    refine ⟨hT, ⟨S, P, O, hc, by omega, e2, e3⟩, by omega, by omega, ⟨dd - 1, ?_, by omega, by omega⟩, h7', h8'⟩
    rw [show s + 1 - m = (s - m) + 1 by omega]
    refine (r1.put (by omega)).snoc ⟨w, by rw [nth_put, if_pos ⟨by omega, by omega⟩], Or.inr (Or.inl ⟨hw20, hw2, by omega, ?_⟩)⟩
    show (dd : Int) - 1 = ((dd - 1 : Nat) : Int)
    omega
theorem ev_binds {M : Mem} {e : Nat} {w : Int32} : Ev none e 176 0 [some (.int w)] [] M (some (.int (if w = 20 then 3 else if w = 21 then 2 else 1))) M 0 0 := by
  refine bi_0 ?_
  by_cases h : w = 20
  · rw [if_pos h, if_pos h]
    exact bi_6
  · rw [if_neg h, if_neg h]
    refine bi_10 ?_
    by_cases h2 : w = 21
    · rw [if_pos h2, if_pos h2]
      exact bi_16
    · rw [if_neg h2, if_neg h2]
      exact bi_20
def mdW : Md := [(11, 20), (11, 19), (1073, 0), (1074, 0), (1075, 0)]
theorem ev_writeDown {ls0 lp : List Int32} {m o e : Nat} {q : Int32} : ∀ (p s : Nat) (M : Mem) (ls : List Int32), JJ ls0 m 1 M s p o ls lp → ∃ M' s' p' ls', Ev none (e + 1) 175 0 [some (.ref 633), some (.int q)] [] M none M' 0 0 ∧ JJ ls0 m 1 M' s' p' o ls' lp ∧ Frm sT mdW M M' ∧ p' ≤ p ∧ (hasO lp p → hasO lp p') ∧ (q.toInt ≤ 1 → ∀ k, p' = k + 1 → gNth lp k = some 23) := by
  intro p
  induction p with
  | zero =>
    intro s M ls h
    obtain ⟨hT, ⟨S, P, O, hc, h1, h2, h3⟩, _⟩ := id h
    obtain ⟨vs, hM, v19, v20, _⟩ := hc
    refine ⟨M, s, 0, ls, dn_0 hM v20 ?_, h, Frm.refl M, Nat.le_refl _, fun h => h, fun _ k hk => by omega⟩
    rw [if_pos (by rw [Int32.le_iff_toInt_le]; show P.toInt ≤ 0; omega)]
    exact dn_69
  | succ p ih =>
    intro s M ls h
    obtain ⟨hn1, hn2, hn3, ll, pl⟩ := h.num
    obtain ⟨hT, ⟨S, P, O, hc, h1, h2, h3⟩, _, _, _, hent, _⟩ := id h
    obtain ⟨vs, hM, v19, v20, v21, r645, r648⟩ := id hc
    obtain ⟨vs9, hM9, hv⟩ := hT.mfld
    cases hM.symm.trans hM9
    have h18 := hv _ _ _ (and_t mfT).2 sUT.2.2.2
    have eP : (P - 1).toInt = ((p : Nat) : Int) := by rw [i32_m1 (by omega)]; omega
    obtain ⟨w, y1, y2⟩ := at_c (l := lp) eP (by omega)
    have hn0 : ¬ P ≤ 0 := by rw [Int32.le_iff_toInt_le]; show ¬ P.toInt ≤ 0; omega
    have stop_ : Ev none (e + 1) 175 0 [some (.ref 633), some (.int q)] [] M none M 0 0 → (q.toInt ≤ 1 → gNth lp p = some 23) → ∃ M' s' p' ls', Ev none (e + 1) 175 0 [some (.ref 633), some (.int q)] [] M none M' 0 0 ∧ JJ ls0 m 1 M' s' p' o ls' lp ∧ Frm sT mdW M M' ∧ p' ≤ p + 1 ∧ (hasO lp (p + 1) → hasO lp p') ∧ (q.toInt ≤ 1 → ∀ k, p' = k + 1 → gNth lp k = some 23) := fun hev hno => ⟨M, s, p + 1, ls, hev, h, Frm.refl M, Nat.le_refl _, fun h => h, fun a k hk => by
      have hk : k = p := by omega
      subst hk
      exact hno a⟩
    by_cases hw : w = 23
    · exact stop_ (dn_0 hM v20 (by rw [if_neg hn0]; exact dn_7 hM h18 v20 r648 y1 (by rw [if_pos hw]; exact dn_69))) (fun _ => by rw [y2, hw])
    obtain ⟨z, ez⟩ : ∃ z : Int32, z = if w = 20 then 3 else if w = 21 then 2 else 1 := ⟨_, rfl⟩
    have bz := ev_binds (M := M) (e := e) (w := w)
    rw [← ez] at bz
    have z1 : 1 ≤ z.toInt := by
      rw [ez]
      split
      · decide
      · split <;> decide
    by_cases hzq : z < q
    · refine stop_ (dn_0 hM v20 (by rw [if_neg hn0]; exact dn_7 hM h18 v20 r648 y1 (by rw [if_neg hw]; exact dn_23 hM h18 v20 r648 y1 (Ev.call0 (fun n => rfl) bz (dn_37 (by rw [if_pos hzq]; exact dn_69)))))) (fun hq => ?_)
      rw [Int32.lt_iff_toInt_lt] at hzq
      omega
    obtain ⟨T1, c1⟩ := hc.P hT hM (y := P - 1) (by omega) (by omega)
    obtain ⟨_, hlen⟩ := fset hT (and_t (and_t fBT).1).2 hM (y := P - 1) (by omega) (by omega)
    obtain ⟨M1, e1⟩ : ∃ M1, M1 = gPut M 633 (.inr (11, gPut vs 20 (.int (P - 1)))) := ⟨_, rfl⟩
    rw [← e1] at T1 c1
    have F1 : Frm sT mdW M M1 := by rw [e1]; exact Frm.fld hM (by decide)
    obtain ⟨vs1, hM1, v19b, v20b, v21b, r645b, r648b⟩ := id c1
    obtain ⟨vs9, hM9, hv⟩ := T1.mfld
    cases hM1.symm.trans hM9
    have h18b := hv _ _ _ (and_t mfT).2 sUT.2.2.2
    obtain ⟨M2, w1, T2, F2, c2⟩ := ev_write (e := e) (a := w) (b := 0) (n := 0) T1 c1 (by omega)
    have es : S.toInt.toNat = s := by omega
    rw [es] at c2
    have h2' := h.pop y2 hw T2 c2 (by rw [i32_p1 (by omega)]; omega) (by omega) h3
    obtain ⟨M3, s', p', ls', q1, q2, q3, q4, q5, q6⟩ := ih (s + 1) M2 _ h2'
    have hO : hasO lp (p + 1) → hasO lp p := fun ⟨k, k1, k2⟩ => ⟨k, by
      by_cases hk : k = p
      · subst hk
        rw [y2] at k2
        exact absurd (Option.some.inj k2) hw
      · omega, k2⟩
    refine ⟨M3, s', p', ls', dn_0 hM v20 ?_, q2, (F1.trans (F2.more (by decide))).trans q3, by omega, fun h => q5 (hO h), q6⟩
    rw [if_neg hn0]
    refine dn_7 hM h18 v20 r648 y1 ?_
    rw [if_neg hw]
    refine dn_23 hM h18 v20 r648 y1 (Ev.call0 (fun n => rfl) bz (dn_37 ?_))
    rw [if_neg hzq]
    refine dn_41 hM v20 hlen ?_
    rw [← e1]
    exact dn_51 hM1 h18b v20b r648b y1 (Ev.call0 (fun n => gs_7 rfl rfl (cal_wr hM1 rfl)) w1 (dn_66 q1))
