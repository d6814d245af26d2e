/-! THE CLASS'S nets kept by weeks -/
/-- what is kept of a week -/
def KW (M : Mem) (x : Nat) (f : Nat → Bool) : Prop := ∀ j b, j < 4 → b < 64 → (bqN (lJ M 193 (4 * x + j))).testBit b = f (64 * j + b)
noncomputable def nwB (T : TS) (P : PK) (c : Nat) : Bool := decide (c < clsP P) && wrnB (T 0) P (nI c)
section KEPT
variable {e L n k i xn yn : Nat} {T : TS} {P Q : PK} {M M1 M' : Mem} {v : Option Value} {x y iz s c : Int32} {f g : Nat → Bool} {F : Nat → Nat → Prop} {W O : Nat → Prop}
theorem ni_6 : ∀ c, c < 256 → (nI c >>> ((6 : Int32) &&& 31)) = nI (c / 64) := by decide +kernel
theorem ni_63 : ∀ c, c < 256 → (nI c &&& 63) = nI (c % 64) := by decide +kernel
theorem one_sh : ∀ b, b < 64 → bqN ((1 : Int64) <<< ((nI b).toInt64 &&& 63)) = 2 ^ b := by decide +kernel
theorem nI_p1 (h : n < 1000) : nI n + 1 = nI (n + 1) := Int32.toInt_inj.mp (by rw [i32_p1 (by rw [nI_toInt (by omega)]; omega), nI_toInt (by omega), nI_toInt (by omega)]; omega)
theorem kx_i (hx : x.toInt = (xn : Int)) (x20 : xn ≤ 20) (hi : iz.toInt = (i : Int)) (i4 : i < 4) : (4 * x + iz).toInt = ((4 * xn + i : Nat) : Int) := by
  have t4 : (4 : Int32).toInt = 4 := rfl
  have m : (4 * x).toInt = 4 * x.toInt := i32_mul (by rw [t4]; omega) (by rw [t4]; omega)
  rw [i32_add (by omega) (by omega), m]
  omega
theorem bits_g : lgB 42 84 = true := ql_g42
theorem qa_193' : gNth sT 193 = some 42 := by decide +kernel
theorem kpc_z (hx : x.toInt = (xn : Int)) (x20 : xn ≤ 20) : ∀ (r i : Nat) (iz : Int32) (M : Mem), i + r = 4 → iz.toInt = (i : Int) → SQ M → (∀ j, j < i → lJ M 193 (4 * xn + j) = 0) → Ev none e 15 13 [some (.ref 192), some (.int x), some (.int iz)] [] M v M' 0 0 → ∃ M2, SQ M2 ∧ FZ noF noO noO M M2 ∧ (∀ j, j < 4 → lJ M2 193 (4 * xn + j) = 0) ∧ (∀ i, ¬ (4 * xn ≤ i ∧ i < 4 * xn + 4) → lJ M2 193 i = lJ M 193 i) ∧ Ev none e 15 37 [some (.ref 192), some (.int x), some (.int 0)] [] M2 v M' 0 0 := by
  have t4 : (4 : Int32).toInt = 4 := rfl
  intro r
  induction r with
  | zero =>
    intro i iz M hr hi hS hz H
    rcases kpc_13 hS H with ⟨_, H⟩ | ⟨a1, _⟩
    · exact ⟨M, hS, FZ.refl _, fun j hj => hz j (by omega), fun _ _ => rfl, H⟩
    · exact absurd (Int32.le_iff_toInt_le.mpr (by omega)) a1
  | succ r ih =>
    intro i iz M hr hi hS hz H
    rcases kpc_13 hS H with ⟨a1, _⟩ | ⟨_, _, H⟩
    · have := Int32.le_iff_toInt_le.mp a1
      omega
    · rw [cl_n (kx_i hx x20 hi (by omega))] at H
      obtain ⟨M2, s1, s2, s3, s4, s5⟩ := ih (i + 1) (iz + 1) _ (by omega) (by rw [i32_p1 (by omega)]; omega) hS.kj (fun j hj => by
        by_cases q : j = i
        · rw [q]
          exact lJ_eq hS.1 qa_193' bits_g (by omega)
        · rw [lJ_ne hS.1 qa_193' bits_g (by omega)]
          exact hz j (by omega)) H
      refine ⟨M2, s1, FZ.wJ.trans s2, s3, fun i2 h2 => ?_, s5⟩
      rw [s4 i2 h2, lJ_ne hS.1 qa_193' bits_g (by omega)]
theorem CTX.wj (h : CTX L T P M) {a : Nat} {z : Int64} : CTX L T P (wJ M a n z) := h.lk h.1.1.kj FZ.wJ
theorem kpc_l (hw : wh4 P) (hx : x.toInt = (xn : Int)) (x20 : xn ≤ 20) : ∀ (r cn : Nat) (M : Mem), CTX L T P M → zI M L 0 = P 0 → zI M L 1 = P 1 → cn + r = clsP P → (∀ j b, j < 4 → b < 64 → (bqN (lJ M 193 (4 * xn + j))).testBit b = (decide (64 * j + b < cn) && nwB T P (64 * j + b))) → Ev none e 15 37 [some (.ref 192), some (.int x), some (.int (nI cn))] [] M v M' 0 0 → v = none ∧ SQ M' ∧ FZ noF noO noO M M' ∧ KW M' xn (nwB T P) ∧ ∀ i, ¬ (4 * xn ≤ i ∧ i < 4 * xn + 4) → lJ M' 193 i = lJ M 193 i := by
  obtain ⟨_, c256, _⟩ := cls_int hw
  intro r
  induction r with
  | zero =>
    intro cn M hX h0 h1 hc hb H
    have hg := g6_ok hw h0 h1
    have hl : fR M 104 7 = L := hX.1.2.1
    rcases kpc_37 hX.1.1 H with ⟨_, r1, r2⟩ | ⟨a1, _⟩ | ⟨a1, _⟩
    · rw [r2]
      refine ⟨r1, hX.1.1, FZ.refl _, fun j b hj hbb => ?_, fun _ _ => rfl⟩
      rw [hb j b hj hbb]
      unfold nwB
      rw [show cn = clsP P by omega]
      cases decide (64 * j + b < clsP P) <;> rfl
    all_goals exact absurd (Int32.le_iff_toInt_le.mpr (by rw [hl, hg, nI_toInt (by omega)]; omega)) a1
  | succ r ih =>
    intro cn M hX h0 h1 hc hb H
    have hg := g6_ok hw h0 h1
    have hl : fR M 104 7 = L := hX.1.2.1
    have tc : (nI cn).toInt = (cn : Int) := nI_toInt (by omega)
    have ic : inC P (nI cn) := ⟨by omega, by omega⟩
    have ew : G_56 M (nI cn) = bI (wrnB (T 0) P (nI cn)) := g56_ok hX.1 ic
    have en : nwB T P cn = wrnB (T 0) P (nI cn) := by
      unfold nwB
      rw [decide_eq_true (show cn < clsP P by omega), Bool.true_and]
    have sp : ∀ j b, decide (64 * j + b < cn + 1) = (decide (64 * j + b < cn) || decide (64 * j + b = cn)) := fun j b => by
      by_cases q : 64 * j + b = cn
      · rw [decide_eq_true q, decide_eq_true (show 64 * j + b < cn + 1 by omega), Bool.or_true]
      · rw [decide_eq_false q, Bool.or_false]
        by_cases q2 : 64 * j + b < cn
        · rw [decide_eq_true q2, decide_eq_true (show 64 * j + b < cn + 1 by omega)]
        · rw [decide_eq_false q2, decide_eq_false (show ¬ 64 * j + b < cn + 1 by omega)]
    rcases kpc_37 hX.1.1 H with ⟨a1, _⟩ | ⟨_, a1, H⟩ | ⟨_, a1, _, _, H⟩
    · have := Int32.le_iff_toInt_le.mp a1
      rw [hl, hg] at this
      omega
    · rw [ew] at a1
      rw [nI_p1 (by omega)] at H
      refine ih (cn + 1) M hX h0 h1 (by omega) (fun j b hj hbb => ?_) H
      rw [hb j b hj hbb, sp]
      by_cases q : 64 * j + b = cn
      · rw [q, en]
        cases hwn : wrnB (T 0) P (nI cn) with
        | true => rw [hwn] at a1; exact absurd a1 (by decide)
        | false => rw [Bool.and_false, Bool.and_false]
      · rw [decide_eq_false q, Bool.or_false]
    · rw [ew] at a1
      have hwn : wrnB (T 0) P (nI cn) = true := by
        cases hwn : wrnB (T 0) P (nI cn) with
        | true => rfl
        | false => rw [hwn] at a1; exact absurd rfl a1
      have hd : cn / 64 < 4 := by omega
      rw [nI_p1 (by omega), ni_6 cn (by omega), ni_63 cn (by omega), cl_n (kx_i hx x20 (nI_toInt (show cn / 64 < 2147483648 by omega)) hd)] at H
      have S := hX.1.1
      obtain ⟨u1, u2, u3, u4, u5⟩ := ih (cn + 1) _ hX.wj (by rw [fI_wJ]; exact h0) (by rw [fI_wJ]; exact h1) (by omega) (fun j b hj hbb => by
        by_cases q : j = cn / 64
        · rw [q, lJ_eq S.1 qa_193' bits_g (by omega)]
          unfold bqN
          rw [Int64.toBitVec_or, BitVec.toNat_or, Nat.testBit_or]
          have o1 : ((1 : Int64) <<< ((nI (cn % 64)).toInt64 &&& 63)).toBitVec.toNat = 2 ^ (cn % 64) := one_sh _ (by omega)
          rw [o1, Nat.testBit_two_pow]
          have hb2 := hb (cn / 64) b hd hbb
          unfold bqN at hb2
          rw [hb2, sp]
          by_cases q2 : cn % 64 = b
          · have q3 : 64 * (cn / 64) + b = cn := by omega
            rw [q3, decide_eq_true q2, Bool.or_true, decide_eq_true rfl, Bool.or_true, Bool.true_and, en, hwn]
          · have q3 : ¬ 64 * (cn / 64) + b = cn := by omega
            rw [decide_eq_false q2, Bool.or_false, decide_eq_false q3, Bool.or_false]
        · rw [lJ_ne S.1 qa_193' bits_g (by omega), hb j b hj hbb, sp, decide_eq_false (show ¬ 64 * j + b = cn by omega), Bool.or_false]) H
      refine ⟨u1, u2, FZ.wJ.trans u3, u4, fun i hi => ?_⟩
      rw [u5 i hi, lJ_ne S.1 qa_193' bits_g (by omega)]
theorem keep_ok (hw : wh4 P) (hX : CTX L T P M) (h0 : zI M L 0 = P 0) (h1 : zI M L 1 = P 1) (hx : x.toInt = (xn : Int)) (x20 : xn ≤ 20) (H : Ev none e 15 0 [some (.ref 192), some (.int x), none] [] M v M' 0 0) : v = none ∧ SQ M' ∧ FZ noF noO noO M M' ∧ KW M' xn (nwB T P) ∧ ∀ i, ¬ (4 * xn ≤ i ∧ i < 4 * xn + 4) → lJ M' 193 i = lJ M 193 i := by
  rcases kpc_0 hX.1.1 H with ⟨a1, _⟩ | ⟨_, H⟩
  · rw [g126_R] at a1
    exact absurd ⟨by show (0 : Int) ≤ x.toInt; omega, by show x.toInt ≤ (20 : Int); omega⟩ a1
  · obtain ⟨M2, s1, s2, s3, s4, s5⟩ := kpc_z hx x20 4 0 0 M rfl rfl hX.1.1 (fun j hj => absurd hj (Nat.not_lt_zero j)) H
    have F2 : FZ noF lkW noO M M2 := s2.more (fun _ _ q => q) (fun _ q => q.elim) (fun _ q => q)
    obtain ⟨u1, u2, u3, u4, u5⟩ := kpc_l hw hx x20 (clsP P) 0 M2 (hX.lk s1 F2) ((s2.fi (fun q => q)).trans h0) ((s2.fi (fun q => q)).trans h1) (by omega) (fun j b hj hb => by
      rw [s3 j hj]
      have z : bqN 0 = 0 := rfl
      rw [z, Nat.zero_testBit, decide_eq_false (Nat.not_lt_zero _), Bool.false_and]) s5
    exact ⟨u1, u2, s2.trans u3, u4, fun i hi => (u5 i hi).trans (s4 i hi)⟩
/-! counted -/
theorem ctW_app : ∀ (a b i : Nat), ctW f (a + b) i = ctW f a i + ctW f b (i + a) := by
  intro a
  induction a with
  | zero => intro b i; rw [Nat.zero_add]; show _ = 0 + _; rw [Nat.zero_add, Nat.add_zero]
  | succ a ih =>
    intro b i
    have e : ctW f (a + 1 + b) i = (if f i = true then 1 else 0) + ctW f (a + b) (i + 1) := by
      rw [show a + 1 + b = (a + b) + 1 by omega]
      rfl
    rw [e, ih b (i + 1), show i + 1 + a = i + (a + 1) by omega]
    show _ = (if f i = true then 1 else 0) + ctW f a (i + 1) + _
    omega
theorem ctW_sh : ∀ (r i k : Nat), (∀ t, t < r → g (i + t) = f (k + t)) → ctW g r i = ctW f r k := by
  intro r
  induction r with
  | zero => intro i k _; rfl
  | succ r ih =>
    intro i k h
    unfold ctW
    have h0 := h 0 (by omega)
    rw [Nat.add_zero, Nat.add_zero] at h0
    rw [h0, ih (i + 1) (k + 1) (fun t ht => by
      have q := h (t + 1) (by omega)
      rw [show i + 1 + t = i + (t + 1) by omega, show k + 1 + t = k + (t + 1) by omega]
      exact q)]
theorem ctW_no : ∀ (r i : Nat), (∀ t, t < r → f (i + t) = false) → ctW f r i = 0 := by
  intro r
  induction r with
  | zero => intro i _; rfl
  | succ r ih =>
    intro i h
    unfold ctW
    have h0 := h 0 (by omega)
    rw [Nat.add_zero] at h0
    rw [h0, ih (i + 1) (fun t ht => by
      rw [show i + 1 + t = i + (t + 1) by omega]
      exact h (t + 1) (by omega))]
    rfl
theorem ctW_le : ∀ (r i : Nat), ctW f r i ≤ r := by
  intro r
  induction r with
  | zero => intro i; exact Nat.le_refl _
  | succ r ih =>
    intro i
    have q := ih (i + 1)
    unfold ctW
    split <;> omega
theorem wd_ct {w : Int64} (j : Nat) (h : ∀ b, b < 64 → (bqN w).testBit b = f (64 * j + b)) : sb1 64 (bqN w) = ctW f 64 (64 * j) := by
  rw [sb1_ct 64 (bqN w) 0]
  refine ctW_sh 64 0 (64 * j) (fun t ht => ?_)
  rw [Nat.zero_add, Nat.sub_zero]
  exact h t ht
theorem szc_l (hx : x.toInt = (xn : Int)) (x20 : xn ≤ 20) (hK : KW M xn f) (hS : SQ M) : ∀ (r i : Nat) (iz s : Int32), i + r = 4 → iz.toInt = (i : Int) → s.toInt = ((ctW f (64 * i) 0 : Nat) : Int) → Ev none e 16 4 [some (.ref 192), some (.int x), some (.int s), some (.int iz)] [] M v M' 0 0 → M' = M ∧ ∃ y : Int32, v = some (.int y) ∧ y.toInt = ((ctW f 256 0 : Nat) : Int) := by
  have t4 : (4 : Int32).toInt = 4 := rfl
  intro r
  induction r with
  | zero =>
    intro i iz s hr hi hs H
    rcases szc_4 hS H with ⟨_, r1, r2⟩ | ⟨a1, _⟩
    · refine ⟨r2, s, r1, ?_⟩
      rw [hs, show i = 4 by omega]
    · exact absurd (Int32.le_iff_toInt_le.mpr (by omega)) a1
  | succ r ih =>
    intro i iz s hr hi hs H
    rcases szc_4 hS H with ⟨a1, _⟩ | ⟨_, _, e1, v1, M1, _, H1, H⟩
    · have := Int32.le_iff_toInt_le.mp a1
      omega
    · rw [cl_n (kx_i hx x20 hi (by omega))] at H1
      obtain ⟨rm, q, rv, hq⟩ := btc_ok hS H1
      rw [rm, rv] at H
      have H := szc_23 hS H
      rw [wd_ct (f := f) i (fun b hb => hK i b (by omega) hb)] at hq
      have l1 := ctW_le (f := f) (64 * i) 0
      have l2 := ctW_le (f := f) 64 (64 * i)
      refine ih (i + 1) (iz + 1) (s + q) (by omega) (by rw [i32_p1 (by omega)]; omega) ?_ H
      rw [i32_add (by omega) (by omega), hs, hq, show 64 * (i + 1) = 64 * i + 64 by omega, ctW_app, Nat.zero_add]
      omega
theorem size_ok (hS : SQ M) (hx : x.toInt = (xn : Int)) (x20 : xn ≤ 20) (hK : KW M xn f) (H : Ev none e 16 0 [some (.ref 192), some (.int x), none, none] [] M v M' 0 0) : M' = M ∧ ∃ y : Int32, v = some (.int y) ∧ y.toInt = ((ctW f 256 0 : Nat) : Int) := szc_l hx x20 hK hS 4 0 0 0 rfl rfl rfl (szc_0 hS H)
theorem tb_an {a b : Int64} {i : Nat} (hi : i < 64) : (bqN (a &&& (b ^^^ (-1)))).testBit i = ((bqN a).testBit i && !(bqN b).testBit i) := by
  unfold bqN
  rw [Int64.toBitVec_and, BitVec.toNat_and, Nat.testBit_and, Int64.toBitVec_xor, BitVec.toNat_xor, Nat.testBit_xor]
  have m : ((-1 : Int64)).toBitVec.toNat.testBit i = true := (by decide +kernel : ∀ i, i < 64 → ((-1 : Int64)).toBitVec.toNat.testBit i = true) i hi
  rw [m, Bool.xor_true]
theorem alc_l (hx : x.toInt = (xn : Int)) (x20 : xn ≤ 20) (hK : KW M xn f) (hy : y.toInt = (yn : Int)) (y20 : yn ≤ 20) (hG : KW M yn g) (hS : SQ M) : ∀ (r i : Nat) (iz s : Int32), i + r = 4 → iz.toInt = (i : Int) → s.toInt = ((ctW (fun c => f c && !g c) (64 * i) 0 : Nat) : Int) → Ev none e 17 5 [some (.ref 192), some (.int x), some (.int y), some (.int s), some (.int iz)] [] M v M' 0 0 → M' = M ∧ ∃ y : Int32, v = some (.int y) ∧ y.toInt = ((ctW (fun c => f c && !g c) 256 0 : Nat) : Int) := by
  have t4 : (4 : Int32).toInt = 4 := rfl
  intro r
  induction r with
  | zero =>
    intro i iz s hr hi hs H
    rcases alc_5 hS H with ⟨_, r1, r2⟩ | ⟨a1, _⟩
    · refine ⟨r2, s, r1, ?_⟩
      rw [hs, show i = 4 by omega]
    · exact absurd (Int32.le_iff_toInt_le.mpr (by omega)) a1
  | succ r ih =>
    intro i iz s hr hi hs H
    rcases alc_5 hS H with ⟨a1, _⟩ | ⟨_, _, _, e1, v1, M1, _, H1, H⟩
    · have := Int32.le_iff_toInt_le.mp a1
      omega
    · rw [cl_n (kx_i hx x20 hi (by omega)), cl_n (kx_i hy y20 hi (by omega))] at H1
      obtain ⟨rm, q, rv, hq⟩ := btc_ok hS H1
      rw [rm, rv] at H
      have H := alc_42 hS H
      rw [wd_ct (f := fun c => f c && !g c) i (fun b hb => by
        rw [tb_an hb, hK i b (by omega) hb, hG i b (by omega) hb])] at hq
      have l1 := ctW_le (f := fun c => f c && !g c) (64 * i) 0
      have l2 := ctW_le (f := fun c => f c && !g c) 64 (64 * i)
      refine ih (i + 1) (iz + 1) (s + q) (by omega) (by rw [i32_p1 (by omega)]; omega) ?_ H
      rw [i32_add (by omega) (by omega), hs, hq, show 64 * (i + 1) = 64 * i + 64 by omega, ctW_app, Nat.zero_add]
      omega
theorem alone_ok (hS : SQ M) (hx : x.toInt = (xn : Int)) (x20 : xn ≤ 20) (hK : KW M xn f) (hy : y.toInt = (yn : Int)) (y20 : yn ≤ 20) (hG : KW M yn g) (H : Ev none e 17 0 [some (.ref 192), some (.int x), some (.int y), none, none] [] M v M' 0 0) : M' = M ∧ ∃ y : Int32, v = some (.int y) ∧ y.toInt = ((ctW (fun c => f c && !g c) 256 0 : Nat) : Int) := alc_l hx x20 hK hy y20 hG hS 4 0 0 0 rfl rfl rfl (alc_0 hS H)
/-! the same in the park's words -/
theorem netP_ct {q : TQ} : ∀ (r cn : Nat) (s : Int32) (a : Nat), cn + r ≤ 256 → s.toInt = (a : Int) → a ≤ cn → (netP q P r (nI cn) s).toInt = ((a + ctW (fun k => wrnB q P (nI k)) r cn : Nat) : Int) := by
  intro r
  induction r with
  | zero => intro cn s a _ hs _; exact hs
  | succ r ih =>
    intro cn s a hc hs ha
    unfold netP ctW
    rw [nI_p1 (by omega)]
    cases hw : wrnB q P (nI cn) with
    | true =>
      rw [if_pos rfl, if_pos rfl, ih (cn + 1) (s + 1) (a + 1) (by omega) (by rw [i32_p1 (by omega)]; omega) (by omega)]
      omega
    | false =>
      rw [if_neg (by decide), if_neg (by decide), show s + 0 = s by grind, ih (cn + 1) s a (by omega) hs (by omega), Nat.zero_add]
theorem alo_ct {q : TQ} : ∀ (r cn : Nat) (s : Int32) (a : Nat), cn + r ≤ 256 → s.toInt = (a : Int) → a ≤ cn → (aloP2 q P Q r (nI cn) s).toInt = ((a + ctW (fun k => wrnB q P (nI k) && !wrnB q Q (nI k)) r cn : Nat) : Int) := by
  intro r
  induction r with
  | zero => intro cn s a _ hs _; exact hs
  | succ r ih =>
    intro cn s a hc hs ha
    unfold aloP2 ctW
    rw [nI_p1 (by omega)]
    cases hw : wrnB q P (nI cn) with
    | true =>
      cases hq : wrnB q Q (nI cn) with
      | true =>
        rw [if_neg (by decide), if_neg (by decide), show s + 0 = s by grind, ih (cn + 1) s a (by omega) hs (by omega), Nat.zero_add]
      | false =>
        rw [if_pos (by decide), if_pos (by decide), ih (cn + 1) (s + 1) (a + 1) (by omega) (by rw [i32_p1 (by omega)]; omega) (by omega)]
        omega
    | false =>
      rw [if_neg (by simp), if_neg (by simp), show s + 0 = s by grind, ih (cn + 1) s a (by omega) hs (by omega), Nat.zero_add]
theorem nwP_ct (h : clsP P ≤ 256) : (nwP (T 0) P).toInt = ((ctW (nwB T P) 256 0 : Nat) : Int) := by
  have e := netP_ct (q := T 0) (P := P) (clsP P) 0 0 0 (by omega) rfl (Nat.le_refl _)
  have e2 : nwP (T 0) P = netP (T 0) P (clsP P) (nI 0) 0 := rfl
  rw [e2, e, Nat.zero_add]
  have s1 : ctW (nwB T P) 256 0 = ctW (nwB T P) (clsP P) 0 + ctW (nwB T P) (256 - clsP P) (0 + clsP P) := by
    rw [← ctW_app, show clsP P + (256 - clsP P) = 256 by omega]
  rw [s1, ctW_no (256 - clsP P) (0 + clsP P) (fun t ht => by
    unfold nwB
    rw [decide_eq_false (by omega), Bool.false_and]), Nat.add_zero]
  rw [ctW_sh (f := nwB T P) (g := fun k => wrnB (T 0) P (nI k)) (clsP P) 0 0 (fun t ht => by
    unfold nwB
    rw [decide_eq_true (by omega), Bool.true_and])]
theorem aloP_ct (h : clsP P ≤ 256) (hQ : clsP Q = clsP P) : (aloP2 (T 0) P Q (clsP P) 0 0).toInt = ((ctW (fun c => nwB T P c && !nwB T Q c) 256 0 : Nat) : Int) := by
  have e := alo_ct (q := T 0) (P := P) (Q := Q) (clsP P) 0 0 0 (by omega) rfl (Nat.le_refl _)
  have e2 : aloP2 (T 0) P Q (clsP P) 0 0 = aloP2 (T 0) P Q (clsP P) (nI 0) 0 := rfl
  rw [e2, e, Nat.zero_add]
  have s1 : ctW (fun c => nwB T P c && !nwB T Q c) 256 0 = ctW (fun c => nwB T P c && !nwB T Q c) (clsP P) 0 + ctW (fun c => nwB T P c && !nwB T Q c) (256 - clsP P) (0 + clsP P) := by
    rw [← ctW_app, show clsP P + (256 - clsP P) = 256 by omega]
  rw [s1, ctW_no (256 - clsP P) (0 + clsP P) (fun t ht => by
    unfold nwB
    rw [decide_eq_false (show ¬ 0 + clsP P + t < clsP P by omega), Bool.false_and, Bool.false_and]), Nat.add_zero]
  rw [ctW_sh (f := fun c => nwB T P c && !nwB T Q c) (g := fun k => wrnB (T 0) P (nI k) && !wrnB (T 0) Q (nI k)) (clsP P) 0 0 (fun t ht => by
    unfold nwB
    rw [hQ, decide_eq_true (show 0 + t < clsP P by omega), Bool.true_and, Bool.true_and])]
end KEPT
