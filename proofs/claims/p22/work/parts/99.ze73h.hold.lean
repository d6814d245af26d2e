/-! THE CLASS'S holds: the COND evaluated -/
/-- the land walked on, as P says; the law's three numbers -/
def LCel (L : Nat) (P : PK) (M : Mem) : Prop := ∀ k f, k < clsP P → f < 7 → rN M (L + 1 + f) k = P (522 + 7 * k + f)
def CV (L : Nat) (g : TQ) (P : PK) (M : Mem) : Prop := SQ M ∧ fR M 104 7 = L ∧ gNth sT L = some 8 ∧ zI M (fR M 104 2) 10 = bdQ g ∧ zI M (fR M 104 2) 11 = mdQ g ∧ zI M (fR M 104 2) 12 = dyQ g ∧ LCel L P M
section HLD
variable {e L t : Nat} {g q : TQ} {P : PK} {M M' : Mem} {v : Option Value} {c : Int32}
theorem LCel.at (h : LCel L P M) (hc : inC P c) {f : Nat} (hf : f < 7) : rI M (L + 1 + f) c = cE P f c := h c.toInt.toNat f hc.2 hf
theorem dec_eq (y k : Int32) : decide (y = k) = decide (¬ y < k ∧ ¬ k < y) := by
  refine decide_eq_decide.mpr ?_
  rw [Int32.lt_iff_toInt_lt, Int32.lt_iff_toInt_lt, ← Int32.toInt_inj]
  omega
theorem dec_lt {y n : Int32} (hy : 0 ≤ y.toInt) (h0 : 0 ≤ n.toInt) (h9 : n.toInt ≤ 999) : decide (y < n) = decide (¬ y < 0 ∧ ¬ n - 1 < y) := by
  refine decide_eq_decide.mpr ?_
  have e0 : (0 : Int32).toInt = 0 := rfl
  have e1 := i32_m1 (n := n) (by omega)
  rw [Int32.lt_iff_toInt_lt, Int32.lt_iff_toInt_lt, Int32.lt_iff_toInt_lt, e0, e1]
  omega
theorem dec_gt {y n : Int32} (h0 : 0 ≤ n.toInt) (h9 : n.toInt ≤ 999) : decide (n < y) = decide (¬ y < n + 1 ∧ ¬ (2147483647 : Int32) < y) := by
  refine decide_eq_decide.mpr ?_
  have e0 : (2147483647 : Int32).toInt = 2147483647 := rfl
  have e1 := i32_p1 (n := n) (by omega)
  have e2 := (i32_lt y).2
  rw [Int32.lt_iff_toInt_lt, Int32.lt_iff_toInt_lt, Int32.lt_iff_toInt_lt, e0, e1]
  omega
theorem cM_a {m : Nat} (hm : m ≤ 7) (s n : Int32) : cM (nI m, s, n) = (sI 3 (nI m), sI 4 (nI m), sI 4 (nI m)) := by
  obtain ⟨h1, h2, h3, h4⟩ := (by decide : ∀ m : Nat, m ≤ 7 → ¬ nI m = 20 ∧ ¬ nI m = 21 ∧ ¬ nI m = 22 ∧ nI m < 8) m hm
  unfold cM
  rw [if_neg h1, if_neg h2, if_neg h3, if_pos h4]
theorem cM_c {m : Nat} (hm : 8 ≤ m) (hm2 : m ≤ 11) (s n : Int32) : cM (nI m, s, n) = if s = 60 then (sI 3 (nI m), 0, n - 1) else if s = 61 then (sI 3 (nI m), n, n) else (sI 3 (nI m), n + 1, 2147483647) := by
  obtain ⟨h1, h2, h3, h4⟩ := (by decide : ∀ m : Nat, m ≤ 11 → 8 ≤ m → ¬ nI m = 20 ∧ ¬ nI m = 21 ∧ ¬ nI m = 22 ∧ ¬ nI m < 8) m hm2 hm
  unfold cM
  rw [if_neg h1, if_neg h2, if_neg h3, if_neg h4]
theorem cM_c1 {m : Nat} (hm : 8 ≤ m) (hm2 : m ≤ 11) (s n : Int32) : (cM (nI m, s, n)).1 = sI 3 (nI m) := by
  rw [cM_c hm hm2]
  split
  · rfl
  · split <;> rfl
theorem cmp_dec {y s n : Int32} {m : Nat} (hm : 8 ≤ m) (hm2 : m ≤ 11) (hs : s = 60 ∨ s = 61 ∨ s = 62) (hy : 0 ≤ y.toInt) (h0 : 0 ≤ n.toInt) (h9 : n.toInt ≤ 999) : cmpV y s n = decide (¬ y < (cM (nI m, s, n)).2.1 ∧ ¬ (cM (nI m, s, n)).2.2 < y) := by
  rw [cM_c hm hm2]
  unfold cmpV
  rcases hs with rfl | rfl | rfl
  · rw [if_pos rfl, if_pos rfl]
    exact dec_lt hy h0 h9
  · rw [if_neg (by decide), if_pos rfl, if_neg (by decide), if_pos rfl]
    exact dec_eq y n
  · rw [if_neg (by decide), if_neg (by decide), if_neg (by decide), if_neg (by decide)]
    exact dec_gt h0 h9
theorem cM_sm {cd : Cdq} (hk : atC cd) : (cM cd).1 ≠ 8 ∧ (cM cd).1 ≠ 9 ∧ (cM cd).1 ≠ 10 := by
  have k0 : 0 ≤ cd.1.toInt ∧ cd.1.toInt ≤ ((11 : Nat) : Int) := ⟨hk.1, by rcases hk.2 with h | ⟨_, h, _⟩ <;> omega⟩
  obtain ⟨m, hm, he⟩ := i32_in k0.1 k0.2 (by decide)
  obtain ⟨a, s, n⟩ := cd
  have he : a = nI m := he
  subst he
  have h3 := (by decide : ∀ m : Nat, m ≤ 11 → sI 3 (nI m) ≠ 8 ∧ sI 3 (nI m) ≠ 9 ∧ sI 3 (nI m) ≠ 10) m hm
  by_cases h8 : 8 ≤ m
  · rw [cM_c1 h8 hm]
    exact h3
  · rw [cM_a (by omega)]
    exact h3
theorem asked_ok (hV : CV L g P M) (hc : inC P c) (hn : nnC P c) {cd : Cdq} (hk : atC cd) (H : Ev none e 71 0 [some (.ref 104), some (.int (cM cd).1), some (.int c)] [] M v M' 0 0) : M' = M ∧ ∃ y, v = some (.int y) ∧ trP g P c cd = decide (¬ y < (cM cd).2.1 ∧ ¬ (cM cd).2.2 < y) := by
  obtain ⟨hS, hL, hT, l1, l2, _, hC⟩ := hV
  obtain ⟨n2, n3, n4, n5⟩ := hn
  have k0 : 0 ≤ cd.1.toInt ∧ cd.1.toInt ≤ ((11 : Nat) : Int) := ⟨hk.1, by rcases hk.2 with h | ⟨_, h, _⟩ <;> omega⟩
  obtain ⟨m, hm, he⟩ := i32_in k0.1 k0.2 (by decide)
  obtain ⟨a, s, n⟩ := cd
  have he : a = nI m := he
  subst he
  have r0 : rI M (L + 1) c = cE P 0 c := hC.at hc (f := 0) (by decide)
  have r1 : rI M (L + 2) c = cE P 1 c := hC.at hc (f := 1) (by decide)
  have r2 : rI M (L + 3) c = cE P 2 c := hC.at hc (f := 2) (by decide)
  have r3 : rI M (L + 4) c = cE P 3 c := hC.at hc (f := 3) (by decide)
  have r4 : rI M (L + 5) c = cE P 4 c := hC.at hc (f := 4) (by decide)
  have r5 : rI M (L + 6) c = cE P 5 c := hC.at hc (f := 5) (by decide)
  have hcmp : 8 ≤ m → (s = 60 ∨ s = 61 ∨ s = 62) ∧ 0 ≤ n.toInt ∧ n.toInt ≤ 999 := fun h8 => by
    have h := (by decide : ∀ m : Nat, m ≤ 11 → 8 ≤ m → ¬ (nI m).toInt ≤ 7) m hm h8
    rcases hk.2 with q | ⟨_, _, q⟩
    · exact absurd q h
    · exact q
  clear hk k0
  match m, hm with
  | 0, _ =>
    have e1 : (cM (nI 0, s, n)).1 = 0 := by rw [cM_a (by decide)]; decide
    have e2 : (cM (nI 0, s, n)).2.1 = 0 ∧ (cM (nI 0, s, n)).2.2 = 0 := by rw [cM_a (by decide)]; decide
    rw [e1] at H
    obtain ⟨_, h1, h2⟩ := hs0_0 hS H
    rw [hL, r0] at h1
    refine ⟨h2, _, h1, ?_⟩
    rw [e2.1, e2.2]
    exact dec_eq _ _
  | 1, _ =>
    have e1 : (cM (nI 1, s, n)).1 = 0 := by rw [cM_a (by decide)]; decide
    have e2 : (cM (nI 1, s, n)).2.1 = 1 ∧ (cM (nI 1, s, n)).2.2 = 1 := by rw [cM_a (by decide)]; decide
    rw [e1] at H
    obtain ⟨_, h1, h2⟩ := hs0_0 hS H
    rw [hL, r0] at h1
    refine ⟨h2, _, h1, ?_⟩
    rw [e2.1, e2.2]
    exact dec_eq _ _
  | 2, _ =>
    have e1 : (cM (nI 2, s, n)).1 = 0 := by rw [cM_a (by decide)]; decide
    have e2 : (cM (nI 2, s, n)).2.1 = 2 ∧ (cM (nI 2, s, n)).2.2 = 2 := by rw [cM_a (by decide)]; decide
    rw [e1] at H
    obtain ⟨_, h1, h2⟩ := hs0_0 hS H
    rw [hL, r0] at h1
    refine ⟨h2, _, h1, ?_⟩
    rw [e2.1, e2.2]
    exact dec_eq _ _
  | 3, _ =>
    have e1 : (cM (nI 3, s, n)).1 = 0 := by rw [cM_a (by decide)]; decide
    have e2 : (cM (nI 3, s, n)).2.1 = 4 ∧ (cM (nI 3, s, n)).2.2 = 4 := by rw [cM_a (by decide)]; decide
    rw [e1] at H
    obtain ⟨_, h1, h2⟩ := hs0_0 hS H
    rw [hL, r0] at h1
    refine ⟨h2, _, h1, ?_⟩
    rw [e2.1, e2.2]
    exact dec_eq _ _
  | 4, _ =>
    have e1 : (cM (nI 4, s, n)).1 = 0 := by rw [cM_a (by decide)]; decide
    have e2 : (cM (nI 4, s, n)).2.1 = 5 ∧ (cM (nI 4, s, n)).2.2 = 5 := by rw [cM_a (by decide)]; decide
    rw [e1] at H
    obtain ⟨_, h1, h2⟩ := hs0_0 hS H
    rw [hL, r0] at h1
    refine ⟨h2, _, h1, ?_⟩
    rw [e2.1, e2.2]
    exact dec_eq _ _
  | 5, _ =>
    have e1 : (cM (nI 5, s, n)).1 = 1 := by rw [cM_a (by decide)]; decide
    have e2 : (cM (nI 5, s, n)).2.1 = 1 ∧ (cM (nI 5, s, n)).2.2 = 1 := by rw [cM_a (by decide)]; decide
    rw [e1] at H
    obtain ⟨_, h1, h2⟩ := hs1_0 hS H
    rw [hL, r1] at h1
    refine ⟨h2, _, h1, ?_⟩
    rw [e2.1, e2.2]
    exact dec_eq _ _
  | 6, _ =>
    have e1 : (cM (nI 6, s, n)).1 = 2 := by rw [cM_a (by decide)]; decide
    have e2 : (cM (nI 6, s, n)).2.1 = 1 ∧ (cM (nI 6, s, n)).2.2 = 1 := by rw [cM_a (by decide)]; decide
    rw [e1] at H
    rw [e2.1, e2.2]
    have et : trP g P c (nI 6, s, n) = decide (bdQ g ≤ cE P 3 c ∧ mdQ g ≤ cE P 4 c) := rfl
    rw [et]
    rcases hs2_0 hS H with ⟨a1, _, h1, h2⟩ | ⟨a1, a2, _, _, h1, h2⟩ | ⟨a1, a2, _, _, h1, h2⟩
    · rw [hL, r3, l1] at a1
      refine ⟨h2, _, h1, ?_⟩
      rw [decide_eq_false (fun q => absurd a1 (by rw [Int32.lt_iff_toInt_lt]; have := Int32.le_iff_toInt_le.mp q.1; omega))]
      rfl
    · rw [hL, r4, l2] at a2
      refine ⟨h2, _, h1, ?_⟩
      rw [decide_eq_false (fun q => absurd a2 (by rw [Int32.lt_iff_toInt_lt]; have := Int32.le_iff_toInt_le.mp q.2; omega))]
      rfl
    · rw [hL, r3, l1] at a1
      rw [hL, r4, l2] at a2
      refine ⟨h2, _, h1, ?_⟩
      rw [Int32.lt_iff_toInt_lt] at a1 a2
      rw [decide_eq_true ⟨Int32.le_iff_toInt_le.mpr (by omega), Int32.le_iff_toInt_le.mpr (by omega)⟩]
      rfl
  | 7, _ =>
    have e1 : (cM (nI 7, s, n)).1 = 3 := by rw [cM_a (by decide)]; decide
    have e2 : (cM (nI 7, s, n)).2.1 = 1 ∧ (cM (nI 7, s, n)).2.2 = 1 := by rw [cM_a (by decide)]; decide
    rw [e1] at H
    rw [e2.1, e2.2]
    have et : trP g P c (nI 7, s, n) = decide (bdQ g ≤ cE P 3 c) := rfl
    rw [et]
    rcases hs3_0 hS H with ⟨a1, _, h1, h2⟩ | ⟨a1, _, h1, h2⟩
    · rw [hL, r3, l1] at a1
      refine ⟨h2, _, h1, ?_⟩
      rw [decide_eq_false (fun q => absurd a1 (by rw [Int32.lt_iff_toInt_lt]; have := Int32.le_iff_toInt_le.mp q; omega))]
      rfl
    · rw [hL, r3, l1] at a1
      refine ⟨h2, _, h1, ?_⟩
      rw [Int32.lt_iff_toInt_lt] at a1
      rw [decide_eq_true (Int32.le_iff_toInt_le.mpr (by omega))]
      rfl
  | 8, _ =>
    obtain ⟨g1, g2, g3⟩ := hcmp (by decide)
    have e1 : (cM (nI 8, s, n)).1 = 4 := by rw [cM_c1 (by decide) (by decide)]; decide
    rw [e1] at H
    obtain ⟨_, h1, h2⟩ := hs4_0 hS H
    rw [hL, r3] at h1
    exact ⟨h2, _, h1, cmp_dec (by decide) (by decide) g1 n3 g2 g3⟩
  | 9, _ =>
    obtain ⟨g1, g2, g3⟩ := hcmp (by decide)
    have e1 : (cM (nI 9, s, n)).1 = 5 := by rw [cM_c1 (by decide) (by decide)]; decide
    rw [e1] at H
    obtain ⟨_, h1, h2⟩ := hs5_0 hS H
    rw [hL, r4] at h1
    exact ⟨h2, _, h1, cmp_dec (by decide) (by decide) g1 n4 g2 g3⟩
  | 10, _ =>
    obtain ⟨g1, g2, g3⟩ := hcmp (by decide)
    have e1 : (cM (nI 10, s, n)).1 = 6 := by rw [cM_c1 (by decide) (by decide)]; decide
    rw [e1] at H
    obtain ⟨_, h1, h2⟩ := hs6_0 hS H
    rw [hL, r2] at h1
    exact ⟨h2, _, h1, cmp_dec (by decide) (by decide) g1 n2 g2 g3⟩
  | 11, _ =>
    obtain ⟨g1, g2, g3⟩ := hcmp (by decide)
    have e1 : (cM (nI 11, s, n)).1 = 7 := by rw [cM_c1 (by decide) (by decide)]; decide
    rw [e1] at H
    obtain ⟨_, h1, h2⟩ := hs7_0 hS H
    rw [hL, r5] at h1
    exact ⟨h2, _, h1, cmp_dec (by decide) (by decide) g1 n5 g2 g3⟩
/-! the pile as bits -/
def BSt (sk : Int32) (st : List Bool) : Prop := ∀ i, i < 32 → sk.toBitVec.getLsbD i = (st[i]?).getD false
theorem one_bit : ∀ i, i < 32 → (1 : Int32).toBitVec.getLsbD i = decide (i = 0) := by decide
theorem zero_bit : ∀ i, i < 32 → (0 : Int32).toBitVec.getLsbD i = false := by decide
theorem m2_bit : ∀ i, i < 32 → (-2 : Int32).toBitVec.getLsbD i = !decide (i = 0) := by decide
theorem BSt.nil : BSt 0 [] := fun i hi => by
  rw [zero_bit i hi]
  rfl
theorem ush1 (x : Int32) : ((x.toUInt32 >>> ((1 : Int32).toUInt32 &&& Int32.toUInt32 31)).toInt32).toBitVec = x.toBitVec >>> 1 := by
  refine BitVec.eq_of_toNat_eq ?_
  rw [byt_u x 1 1 (by decide), BitVec.toNat_ushiftRight, Nat.shiftRight_eq_div_pow]
theorem shl1 (x : Int32) : (x <<< ((1 : Int32) &&& 31)).toBitVec = x.toBitVec <<< 1 := rfl
theorem ush1_bit {x : Int32} {i : Nat} : ((x.toUInt32 >>> ((1 : Int32).toUInt32 &&& Int32.toUInt32 31)).toInt32).toBitVec.getLsbD i = x.toBitVec.getLsbD (i + 1) := by
  rw [ush1, BitVec.getLsbD_ushiftRight, Nat.add_comm]
theorem hi_bit {x : Int32} : x.toBitVec.getLsbD 32 = false := BitVec.getLsbD_of_ge _ _ (Nat.le_refl _)
theorem BSt.nott {sk : Int32} {x : Bool} {st : List Bool} (h : BSt sk (x :: st)) : BSt (sk ^^^ 1) ((!x) :: st) := fun i hi => by
  have e : (sk ^^^ 1).toBitVec = sk.toBitVec ^^^ (1 : Int32).toBitVec := rfl
  rw [e, BitVec.getLsbD_xor, h i hi, one_bit i hi]
  cases i with
  | zero =>
    show (x ^^ true) = !x
    cases x <;> rfl
  | succ i =>
    show (((st[i]?).getD false) ^^ false) = (st[i]?).getD false
    rw [Bool.xor_false]
theorem BSt.lo {sk : Int32} {x : Bool} {st : List Bool} (h : BSt sk (x :: st)) : sk.toBitVec.getLsbD 0 = x := h 0 (by decide)
theorem BSt.nx {sk : Int32} {x : Bool} {st : List Bool} (h : BSt sk (x :: st)) (hl : st.length ≤ 31) {i : Nat} (hi : i < 32) : sk.toBitVec.getLsbD (i + 1) = (st[i]?).getD false := by
  by_cases h31 : i + 1 < 32
  · exact h (i + 1) h31
  · have e : i = 31 := by omega
    subst e
    rw [hi_bit, List.getElem?_eq_none (by omega)]
    rfl
theorem top_bit {sk : Int32} {i : Nat} (hi : i < 32) : (sk &&& 1).toBitVec.getLsbD i = (decide (i = 0) && sk.toBitVec.getLsbD 0) := by
  have e : (sk &&& 1).toBitVec = sk.toBitVec &&& (1 : Int32).toBitVec := rfl
  rw [e, BitVec.getLsbD_and, one_bit i hi]
  cases i with
  | zero => rw [decide_eq_true rfl, Bool.and_true, Bool.true_and]
  | succ i => rw [decide_eq_false (by omega), Bool.and_false, Bool.false_and]
theorem BSt.orr {sk : Int32} {x y : Bool} {st : List Bool} (h : BSt sk (y :: x :: st)) (hl : st.length ≤ 30) : BSt (((sk.toUInt32 >>> ((1 : Int32).toUInt32 &&& Int32.toUInt32 31)).toInt32) ||| (sk &&& 1)) ((x || y) :: st) := fun i hi => by
  have e : ∀ a b : Int32, (a ||| b).toBitVec = a.toBitVec ||| b.toBitVec := fun _ _ => rfl
  rw [e, BitVec.getLsbD_or, ush1_bit, top_bit hi, h.lo, h.nx (by exact Nat.succ_le_succ hl) hi]
  cases i with
  | zero => rw [decide_eq_true rfl, Bool.true_and]; rfl
  | succ i => rw [decide_eq_false (by omega), Bool.false_and, Bool.or_false]; rfl
theorem BSt.andd {sk : Int32} {x y : Bool} {st : List Bool} (h : BSt sk (y :: x :: st)) (hl : st.length ≤ 30) : BSt (((sk.toUInt32 >>> ((1 : Int32).toUInt32 &&& Int32.toUInt32 31)).toInt32) &&& ((-2) ||| (sk &&& 1))) ((x && y) :: st) := fun i hi => by
  have e : ∀ a b : Int32, (a &&& b).toBitVec = a.toBitVec &&& b.toBitVec := fun _ _ => rfl
  have e2 : ∀ a b : Int32, (a ||| b).toBitVec = a.toBitVec ||| b.toBitVec := fun _ _ => rfl
  rw [e, BitVec.getLsbD_and, ush1_bit, e2, BitVec.getLsbD_or, m2_bit i hi, top_bit hi, h.lo, h.nx (by exact Nat.succ_le_succ hl) hi]
  cases i with
  | zero => rw [decide_eq_true rfl, Bool.true_and]; rfl
  | succ i => rw [decide_eq_false (by omega), Bool.false_and, Bool.or_false, Bool.not_false, Bool.and_true]; rfl
theorem BSt.push {sk : Int32} {st : List Bool} (h : BSt sk st) {z : Int32} {x : Bool} (hz : (z = 1 ∧ x = true) ∨ (z = 0 ∧ x = false)) : BSt ((sk <<< ((1 : Int32) &&& 31)) ||| z) (x :: st) := fun i hi => by
  have e2 : ∀ a b : Int32, (a ||| b).toBitVec = a.toBitVec ||| b.toBitVec := fun _ _ => rfl
  rw [e2, shl1, BitVec.getLsbD_or, BitVec.getLsbD_shiftLeft]
  have hz2 : z.toBitVec.getLsbD i = (decide (i = 0) && x) := by
    rcases hz with ⟨rfl, rfl⟩ | ⟨rfl, rfl⟩
    · rw [one_bit i hi, Bool.and_true]
    · rw [zero_bit i hi, Bool.and_false]
  rw [hz2]
  cases i with
  | zero => simp
  | succ i =>
    rw [decide_eq_true hi, decide_eq_false (by omega : ¬ i + 1 < 1), decide_eq_false (by omega : ¬ i + 1 = 0), Bool.false_and, Bool.or_false, Bool.true_and, Bool.not_false, Bool.true_and, Nat.add_sub_cancel, h i (by omega)]
    rfl
theorem BSt.ans {sk : Int32} {x : Bool} {st : List Bool} (h : BSt sk (x :: st)) : (sk &&& 1) = 1 ↔ x = true := by
  have h0 := h.lo
  constructor
  · intro hq
    have h1 := top_bit (sk := sk) (i := 0) (by decide)
    rw [hq, h0] at h1
    have h2 : (1 : Int32).toBitVec.getLsbD 0 = true := by decide
    rw [h2, decide_eq_true rfl, Bool.true_and] at h1
    exact h1.symm
  · intro hx
    refine Int32.toBitVec_inj.mp (BitVec.eq_of_getLsbD_eq (fun i hi => ?_))
    rw [top_bit hi, one_bit i hi, h0, hx, Bool.and_true]
/-- the answer of a question -/
def bI (b : Bool) : Int32 := bif b then 1 else 0
theorem hold_loop (hV : CV L g P M) (ht : gNth sT t = some 28) (hq : CC M t q.1.2.2) (hc : inC P c) (hn : nnC P c) {i : Int32} {to : Nat} (hto : (rI M (t + 5) i).toInt = (to : Int)) (h96 : to ≤ 96) : ∀ (cs : List Cdq) (j : Nat) (st : List Bool) (sk n : Int32) (c6 c7 c8 : Option Value), (∀ a cd, cs[a]? = some cd → q.1.2.2[j + a]? = some cd) → n.toInt = (j : Int) → j + cs.length = to → okC cs st.length → st.length ≤ 32 → BSt sk st → Ev none e 70 28 [some (.ref 104), some (.ref t), some (.int i), some (.int c), some (.int sk), some (.int n), c6, c7, c8] [] M v M' 0 0 → M' = M ∧ v = some (.int (bI ((evC (trP g P c) cs st).headD true))) := by
  have hS := hV.1
  have h9 : (96 : Int32).toInt = 96 := rfl
  intro cs
  induction cs with
  | nil =>
    intro j st sk n c6 c7 c8 _ hj hlen hok hl hB H
    have hlen : j + 0 = to := hlen
    have hok : st.length = 1 := hok
    obtain ⟨x, rfl⟩ := List.length_eq_one_iff.mp hok
    have fin : Ev none e 70 169 [some (.ref 104), some (.ref t), some (.int i), some (.int c), some (.int sk), some (.int n), c6, c7, c8] [] M v M' 0 0 → M' = M ∧ v = some (.int (bI ((evC (trP g P c) [] [x]).headD true))) := fun H => by
      rcases hw_169 hS ht H with ⟨a1, h1, h2⟩ | ⟨a1, h1, h2⟩
      · have hx := hB.ans.mp a1
        subst hx
        exact ⟨h2, h1⟩
      · have hx : x = false := by
          cases x with
          | false => rfl
          | true => exact absurd (hB.ans.mpr rfl) a1
        subst hx
        exact ⟨h2, h1⟩
    rcases hw_28 hS ht H with ⟨_, _, H⟩ | ⟨_, _, _, H⟩ | ⟨a1, _⟩ | ⟨a1, _⟩ | ⟨a1, _⟩ | ⟨a1, _⟩
    · exact fin H
    · exact fin H
    all_goals exact absurd (Int32.le_iff_toInt_le.mpr (by omega)) a1
  | cons cd cs ih =>
    intro j st sk n c6 c7 c8 hcs hj hlen hok hl hB H
    have hlen : j + (cs.length + 1) = to := hlen
    have hjt : ¬ (rI M (t + 5) i) ≤ n := fun q => by
      have := Int32.le_iff_toInt_le.mp q
      omega
    have hn96 : ¬ 96 ≤ n := fun q => by
      have := Int32.le_iff_toInt_le.mp q
      omega
    have hn1 : (n + 1).toInt = ((j + 1 : Nat) : Int) := by
      rw [i32_p1 (by omega)]
      omega
    have hcd : q.1.2.2[j]? = some cd := hcs 0 cd rfl
    obtain ⟨k1, k2, k3⟩ := hq.2.2 j cd hcd
    rw [← rI_n hj] at k1 k2 k3
    have hcs2 : ∀ a cd, cs[a]? = some cd → q.1.2.2[j + 1 + a]? = some cd := fun a cd h => by
      have := hcs (a + 1) cd h
      rw [show j + 1 + a = j + (a + 1) from by omega]
      exact this
    by_cases c20 : cd.1 = 20
    · have hm : (cM cd).1 = 8 := by
        unfold cM
        rw [if_pos c20]
      have hok : (if cd.1 = 20 then 1 ≤ st.length ∧ okC cs st.length else _) := hok
      rw [if_pos c20] at hok
      obtain ⟨o1, o2⟩ := hok
      cases st with
      | nil => exact absurd o1 (by decide)
      | cons x st =>
        have he : evC (trP g P c) (cd :: cs) (x :: st) = evC (trP g P c) cs ((!x) :: st) := by
          show evC (trP g P c) cs (if cd.1 = 20 then _ else _) = _
          rw [if_pos c20]
        rw [he]
        rcases hw_28 hS ht H with ⟨a1, _⟩ | ⟨_, a1, _⟩ | ⟨_, _, _, _, _, H⟩ | ⟨_, _, a1, _⟩ | ⟨_, _, a1, _⟩ | ⟨_, _, a1, _⟩
        · exact absurd a1 hjt
        · exact absurd a1 hn96
        · exact ih (j + 1) _ _ _ _ _ _ hcs2 hn1 (by omega) o2 hl hB.nott H
        all_goals exact absurd (k1.trans hm) a1
    · by_cases c21 : cd.1 = 21
      · have hm : (cM cd).1 = 9 := by
          unfold cM
          rw [if_neg c20, if_pos c21]
        have hok : (if cd.1 = 20 then _ else if cd.1 = 21 ∨ cd.1 = 22 then 2 ≤ st.length ∧ okC cs (st.length - 1) else _) := hok
        rw [if_neg c20, if_pos (Or.inl c21)] at hok
        obtain ⟨o1, o2⟩ := hok
        match st, o1, o2, hl, hB with
        | y :: x :: st, _, o2, hl, hB =>
          have he : evC (trP g P c) (cd :: cs) (y :: x :: st) = evC (trP g P c) cs ((x && y) :: st) := by
            show evC (trP g P c) cs (if cd.1 = 20 then _ else if cd.1 = 21 then _ else _) = _
            rw [if_neg c20, if_pos c21]
          rw [he]
          have hl : st.length + 2 ≤ 32 := hl
          rcases hw_28 hS ht H with ⟨a1, _⟩ | ⟨_, a1, _⟩ | ⟨_, _, a1, _⟩ | ⟨_, _, _, a1, _⟩ | ⟨_, _, _, _, _, _, _, H⟩ | ⟨_, _, _, _, a1, _⟩
          · exact absurd a1 hjt
          · exact absurd a1 hn96
          · exact absurd ((k1.trans hm).symm.trans a1) (by decide)
          · exact absurd ((k1.trans hm).symm.trans a1) (by decide)
          · exact ih (j + 1) _ _ _ _ _ _ hcs2 hn1 (by omega) o2 (by show st.length + 1 ≤ 32; omega) (hB.andd (by omega)) H
          · exact absurd (k1.trans hm) a1
      · by_cases c22 : cd.1 = 22
        · have hm : (cM cd).1 = 10 := by
            unfold cM
            rw [if_neg c20, if_neg c21, if_pos c22]
          have hok : (if cd.1 = 20 then _ else if cd.1 = 21 ∨ cd.1 = 22 then 2 ≤ st.length ∧ okC cs (st.length - 1) else _) := hok
          rw [if_neg c20, if_pos (Or.inr c22)] at hok
          obtain ⟨o1, o2⟩ := hok
          match st, o1, o2, hl, hB with
          | y :: x :: st, _, o2, hl, hB =>
            have he : evC (trP g P c) (cd :: cs) (y :: x :: st) = evC (trP g P c) cs ((x || y) :: st) := by
              show evC (trP g P c) cs (if cd.1 = 20 then _ else if cd.1 = 21 then _ else if cd.1 = 22 then _ else _) = _
              rw [if_neg c20, if_neg c21, if_pos c22]
            rw [he]
            have hl : st.length + 2 ≤ 32 := hl
            rcases hw_28 hS ht H with ⟨a1, _⟩ | ⟨_, a1, _⟩ | ⟨_, _, a1, _⟩ | ⟨_, _, _, _, _, _, H⟩ | ⟨_, _, _, a1, _⟩ | ⟨_, _, _, a1, _⟩
            · exact absurd a1 hjt
            · exact absurd a1 hn96
            · exact absurd ((k1.trans hm).symm.trans a1) (by decide)
            · exact ih (j + 1) _ _ _ _ _ _ hcs2 hn1 (by omega) o2 (by show st.length + 1 ≤ 32; omega) (hB.orr (by omega)) H
            · exact absurd (k1.trans hm) a1
            · exact absurd (k1.trans hm) a1
        · have hok : (if cd.1 = 20 then _ else if cd.1 = 21 ∨ cd.1 = 22 then _ else atC cd ∧ st.length < 32 ∧ okC cs (st.length + 1)) := hok
          rw [if_neg c20, if_neg (fun q => q.elim c21 c22)] at hok
          obtain ⟨o1, o2, o3⟩ := hok
          have he : evC (trP g P c) (cd :: cs) st = evC (trP g P c) cs (trP g P c cd :: st) := by
            show evC (trP g P c) cs (if cd.1 = 20 then _ else if cd.1 = 21 then _ else if cd.1 = 22 then _ else _) = _
            rw [if_neg c20, if_neg c21, if_neg c22]
          rw [he]
          have hsm := cM_sm o1
          rcases hw_28 hS ht H with ⟨a1, _⟩ | ⟨_, a1, _⟩ | ⟨_, _, a1, _⟩ | ⟨_, _, _, a1, _⟩ | ⟨_, _, _, _, a1, _⟩ | ⟨_, _, _, _, _, _, _, e1, v1, M1, rfl, H1, H⟩
          · exact absurd a1 hjt
          · exact absurd a1 hn96
          · exact absurd (k1.symm.trans a1) hsm.1
          · exact absurd (k1.symm.trans a1) hsm.2.2
          · exact absurd (k1.symm.trans a1) hsm.2.1
          · rw [k1] at H1
            obtain ⟨rfl, y, rfl, hy⟩ := asked_ok hV hc hn o1 H1
            rcases hw_125 hS ht H with ⟨a1, _, H⟩ | ⟨_, a1, _, _, H⟩ | ⟨a1, a2, _, _, H⟩
            · rw [k2] at a1
              refine ih (j + 1) _ _ _ _ _ _ hcs2 hn1 (by omega) o3 (by show st.length + 1 ≤ 32; omega) (hB.push (Or.inr ⟨rfl, ?_⟩)) H
              rw [hy, decide_eq_false (fun q => q.1 a1)]
            · rw [k3] at a1
              refine ih (j + 1) _ _ _ _ _ _ hcs2 hn1 (by omega) o3 (by show st.length + 1 ≤ 32; omega) (hB.push (Or.inr ⟨rfl, ?_⟩)) H
              rw [hy, decide_eq_false (fun q => q.2 a1)]
            · rw [k2] at a1
              rw [k3] at a2
              refine ih (j + 1) _ _ _ _ _ _ hcs2 hn1 (by omega) o3 (by show st.length + 1 ≤ 32; omega) (hB.push (Or.inl ⟨rfl, ?_⟩)) H
              rw [hy, decide_eq_true ⟨a1, a2⟩]
/-- a line of a text: its COND holds -/
theorem holds_ok (hV : CV L g P M) (ht : gNth sT t = some 28) (hq : TXT M t q) (hw : LW q) (hc : inC P c) (hn : nnC P c) {i : Int32} {j : Nat} {l : Lnq} (hi : i.toInt = (j : Int)) (hl : q.2[j]? = some l) (H : Ev none e 70 0 [some (.ref 104), some (.ref t), some (.int i), some (.int c), none, none, none, none, none] [] M v M' 0 0) : M' = M ∧ v = some (.int (bI (hldP g P q l c))) := by
  have hS := hV.1
  obtain ⟨k1, k2, k3, k4, k5⟩ := hq.1.2.2 j l hl
  rw [← rI_n hi] at k4 k5
  obtain ⟨_, w1, w2, w3⟩ := hw l (List.mem_of_getElem? hl)
  have h96 := hq.2.1.2.1
  unfold hldP
  rcases hw_0 hS ht H with ⟨a1, _, _, h1, h2⟩ | ⟨a1, _, _, _, H⟩
  · have : l.2.2.2.1 = l.2.2.2.2 := by
      have := congrArg Int32.toInt a1
      omega
    rw [if_pos this]
    exact ⟨h2, h1⟩
  · have hne : ¬ l.2.2.2.1 = l.2.2.2.2 := fun q => a1 (Int32.toInt_inj.mp (by omega))
    rw [if_neg hne]
    have hok : okC (segC q l) 0 := by
      rcases w3 with w3 | ⟨k, e1, e2⟩
      · exact absurd w3 hne
      · exact e2.ok (by omega)
    have hlen : (segC q l).length = l.2.2.2.2 - l.2.2.2.1 := by
      unfold segC
      rw [List.length_take, List.length_drop]
      omega
    refine hold_loop hV ht hq.2.1 hc hn k5 (by omega) (segC q l) l.2.2.2.1 [] 0 _ none none none (fun a cd h => ?_) k4 (by omega) hok (by decide) BSt.nil H
    unfold segC at h
    rw [List.getElem?_take] at h
    split at h
    · rw [List.getElem?_drop] at h
      exact h
    · cases h
end HLD
