/-! WORDS AS NUMBERS (l64_, u64_, s64_, o64_: turned from the kit's rows of bits) -/
theorem l64_tb (n : Nat) : (lN n).toBitVec = BitVec.ofNat 64 n := rfl
theorem u64_tn {n : Nat} (h : n < 2 ^ 64) : (UInt64.ofNat n).toNat = n := Nat.mod_eq_of_lt h
theorem l64_inj {a b : Nat} (ha : a < 2 ^ 64) (hb : b < 2 ^ 64) (h : lN a = lN b) : a = b := by
  have h2 := congrArg (fun x : Int64 => x.toBitVec.toNat) h
  have e : ∀ n, n < 2 ^ 64 → (lN n).toBitVec.toNat = n := fun n hn => by rw [l64_tb, BitVec.toNat_ofNat, Nat.mod_eq_of_lt hn]
  have h2 : (lN a).toBitVec.toNat = (lN b).toBitVec.toNat := h2
  rw [e a ha, e b hb] at h2
  exact h2
theorem s64_8 : (((8 : Int32).toInt64 &&& 63).toBitVec.smod 64) = BitVec.ofNat 64 8 := by decide +kernel
theorem s64_shl {a : Nat} (ha : a < 2 ^ 64) : lN a <<< ((8 : Int32).toInt64 &&& 63) = lN (a * 256) := by
  apply Int64.toBitVec_inj.mp
  rw [Int64.toBitVec_shiftLeft, s64_8]
  apply BitVec.eq_of_toNat_eq
  have hb : (lN a).toBitVec.toNat = a := by rw [l64_tb, BitVec.toNat_ofNat, Nat.mod_eq_of_lt ha]
  rw [BitVec.shiftLeft_eq', BitVec.toNat_shiftLeft, BitVec.toNat_ofNat, hb, l64_tb, BitVec.toNat_ofNat, Nat.shiftLeft_eq]
theorem o64_or {a b : Nat} (ha : a < 256) (h : b * 256 + a < 2 ^ 64) : lN (b * 256) ||| lN a = lN (b * 256 + a) := by
  have h1 : b * 256 ||| a = b * 256 + a := by
    have h9 : b * 256 = b <<< 8 := by rw [Nat.shiftLeft_eq]
    rw [h9, Nat.shiftLeft_add_eq_or_of_lt (show a < 2 ^ 8 from ha)]
  have h3 : UInt64.ofNat (b * 256) ||| UInt64.ofNat a = UInt64.ofNat (b * 256 + a) := UInt64.toNat_inj.mp (by rw [UInt64.toNat_or, u64_tn (Nat.lt_of_le_of_lt (Nat.le_add_right _ _) h), u64_tn (Nat.lt_of_le_of_lt (Nat.le_add_left _ _) h), u64_tn h, h1])
  have h2 := congrArg UInt64.toInt64 h3
  exact h2
theorem b64 : ∀ b, b < 256 → (nI b).toInt64 = lN b := by decide +kernel
theorem pk1_ok {a b : Nat} (hb : b < 256) (h : (a + 1) * 256 ≤ 2 ^ 56) : pk1 (lN a) (nI b) = lN (a * 256 + b) := by
  have p56 : (2 : Nat) ^ 56 = 72057594037927936 := by decide
  have p64 : (2 : Nat) ^ 64 = 18446744073709551616 := by decide
  unfold pk1
  rw [s64_shl (by omega), b64 b hb, o64_or hb (by omega)]
noncomputable def pkN (l : List Nat) : Nat := l.foldl (fun w c => w * 256 + c) 0
theorem pkF_N : ∀ (l : List Nat) (a : Nat), (∀ c ∈ l, c < 256) → (a + 1) * 256 ^ l.length ≤ 2 ^ 56 → (l.map nI).foldl pk1 (lN a) = lN (l.foldl (fun w c => w * 256 + c) a) ∧ l.foldl (fun w c => w * 256 + c) a < (a + 1) * 256 ^ l.length := by
  intro l
  induction l with
  | nil =>
    intro a _ _
    exact ⟨rfl, by rw [List.length_nil, Nat.pow_zero]; show a < (a + 1) * 1; omega⟩
  | cons b l ih =>
    intro a hl h
    have hb := hl b List.mem_cons_self
    rw [List.length_cons, Nat.pow_succ] at h
    have e1 : (a * 256 + b + 1) * 256 ^ l.length ≤ (a + 1) * (256 ^ l.length * 256) := by
      rw [Nat.mul_comm (256 ^ l.length) 256, ← Nat.mul_assoc]
      exact Nat.mul_le_mul_right _ (by omega)
    have e2 : (a + 1) * 256 ≤ 2 ^ 56 := by
      refine Nat.le_trans ?_ h
      rw [Nat.mul_comm (256 ^ l.length) 256, ← Nat.mul_assoc]
      exact Nat.le_mul_of_pos_right _ (Nat.pow_pos (by decide))
    obtain ⟨g1, g2⟩ := ih (a * 256 + b) (fun c hc => hl c (List.mem_cons_of_mem _ hc)) (Nat.le_trans e1 h)
    refine ⟨?_, ?_⟩
    · show (l.map nI).foldl pk1 (pk1 (lN a) (nI b)) = _
      rw [pk1_ok hb e2]
      exact g1
    · show l.foldl (fun w c => w * 256 + c) (a * 256 + b) < _
      rw [List.length_cons, Nat.pow_succ]
      omega
noncomputable def unN : Nat → Nat → List Nat
  | 0, _ => []
  | f + 1, x => if x = 0 then [] else unN f (x / 256) ++ [x % 256]
theorem unN_ok : ∀ (f : Nat) (l : List Nat), l.length < f → (∀ c ∈ l, 1 ≤ c ∧ c < 256) → unN f (pkN l) = l := by
  intro f
  induction f with
  | zero => intro l h; omega
  | succ f ih =>
    intro l h hl
    rcases List.eq_nil_or_concat l with rfl | ⟨l2, c, rfl⟩
    · rfl
    · rw [List.concat_eq_append] at *
      have hc := hl c (List.mem_append_right _ List.mem_cons_self)
      have e : pkN (l2 ++ [c]) = pkN l2 * 256 + c := by
        unfold pkN
        rw [List.foldl_append]
        rfl
      rw [List.length_append] at h
      have h : l2.length + 1 < f + 1 := h
      unfold unN
      rw [e, if_neg (by omega), show (pkN l2 * 256 + c) / 256 = pkN l2 from by omega, show (pkN l2 * 256 + c) % 256 = c from by omega, ih l2 (by omega) (fun x hx => hl x (List.mem_append_left _ hx))]
def okW (w : List Int32) : Prop := w.length ≤ 6 ∧ ∀ c ∈ w, 1 ≤ c.toInt ∧ c.toInt ≤ 255
theorem okW_N {w : List Int32} (h : okW w) : ∃ l : List Nat, w = l.map nI ∧ l.length ≤ 6 ∧ ∀ c ∈ l, 1 ≤ c ∧ c < 256 := by
  refine ⟨w.map (fun c => c.toInt.toNat), ?_, by rw [List.length_map]; exact h.1, fun c hc => ?_⟩
  · rw [List.map_map]
    refine (List.map_id w).symm.trans (List.map_congr_left (fun c hc => ?_))
    have := h.2 c hc
    have p31 : (2 : Nat) ^ 31 = 2147483648 := by decide
    refine Int32.toInt_inj.mp ?_
    show c.toInt = (nI c.toInt.toNat).toInt
    rw [nI_toInt (by omega)]
    omega
  · obtain ⟨x, hx, rfl⟩ := List.mem_map.mp hc
    have := h.2 x hx
    omega
theorem pkq_inj {w u : List Int32} (hw : okW w) (hu : okW u) (h : pkF w = pkF u) : w = u := by
  obtain ⟨l, rfl, l1, l2⟩ := okW_N hw
  obtain ⟨k, rfl, k1, k2⟩ := okW_N hu
  have p56 : (2 : Nat) ^ 56 = 72057594037927936 := by decide
  have p64 : (2 : Nat) ^ 64 = 18446744073709551616 := by decide
  have p6 : ∀ m : Nat, m ≤ 6 → 256 ^ m ≤ 281474976710656 := fun m hm => Nat.le_trans (Nat.pow_le_pow_right (by decide) hm) (by decide)
  obtain ⟨g1, g2⟩ := pkF_N l 0 (fun c hc => (l2 c hc).2) (by have := p6 _ l1; omega)
  obtain ⟨g3, g4⟩ := pkF_N k 0 (fun c hc => (k2 c hc).2) (by have := p6 _ k1; omega)
  have h : (l.map nI).foldl pk1 (lN 0) = (k.map nI).foldl pk1 (lN 0) := h
  rw [g1, g3] at h
  have q1 := p6 _ l1
  have q2 := p6 _ k1
  have h2 := l64_inj (by omega) (by omega) h
  have h3 : pkN l = pkN k := h2
  rw [← unN_ok 7 l (by omega) l2, h3, unN_ok 7 k (by omega) k2]
/-! words of a text's tokens -/
theorem rlS_al {B : Nat → Int32} : ∀ f p i, i < rlS B f p → ¬ (smI (B (p + i)) = 0 ∧ dgI (B (p + i)) = 0) := by
  intro f
  induction f with
  | zero => intro p i h; exact absurd h (Nat.not_lt_zero i)
  | succ f ih =>
    intro p i h
    unfold rlS at h
    by_cases hq : smI (B p) = 0 ∧ dgI (B p) = 0
    · rw [if_pos hq] at h
      exact absurd h (Nat.not_lt_zero i)
    · rw [if_neg hq] at h
      cases i with
      | zero => exact hq
      | succ i =>
        have h1 := ih (p + 1) i (by omega)
        rw [show p + 1 + i = p + (i + 1) from by omega] at h1
        exact h1
theorem al_rng {c : Int32} (h : ¬ (smI c = 0 ∧ dgI c = 0)) : 1 ≤ c.toInt ∧ c.toInt ≤ 255 := by
  have o1 : (97 : Int32).toInt = 97 := rfl
  have o2 : (122 : Int32).toInt = 122 := rfl
  have o3 : (48 : Int32).toInt = 48 := rfl
  have o4 : (57 : Int32).toInt = 57 := rfl
  unfold smI dgI at h
  by_cases h1 : c < 97
  · by_cases h2 : c < 48
    · exact absurd ⟨by rw [if_pos h1], by rw [if_pos h2]⟩ h
    · by_cases h3 : 57 < c
      · exact absurd ⟨by rw [if_pos h1], by rw [if_neg h2, if_pos h3]⟩ h
      · rw [Int32.lt_iff_toInt_lt] at h1 h2 h3
        omega
  · by_cases h4 : 122 < c
    · have h2 : ¬ c < 48 := fun q => by rw [Int32.lt_iff_toInt_lt] at q h4; omega
      have h3 : 57 < c := by rw [Int32.lt_iff_toInt_lt] at h4 ⊢; omega
      exact absurd ⟨by rw [if_neg h1, if_pos h4], by rw [if_neg h2, if_pos h3]⟩ h
    · rw [Int32.lt_iff_toInt_lt] at h1 h4
      omega
/-- the words among the tokens are words -/
def gdT (B : Nat → Int32) (ts : List Tok) : Prop := ∀ t ∈ ts, (t.1 = 2 → t.2.2.1 ≤ t.2.1 + 6 → okW (slS B t.2.1 (t.2.2.1 - t.2.1))) ∧ (t.1 = 3 → 0 ≤ t.2.2.2.toInt)
/-- digits and their value -/
def nvI (a : Acc) (m : Nat) : Prop := 0 ≤ a.2.1.toInt ∧ a.2.1.toInt ≤ (m : Int) ∧ 0 ≤ a.2.2.toInt ∧ a.2.2.toInt ≤ 999 ∧ (a.2.1.toInt ≤ 0 → a.2.2.toInt ≤ 0) ∧ (a.2.1.toInt ≤ 1 → a.2.2.toInt ≤ 9) ∧ (a.2.1.toInt ≤ 2 → a.2.2.toInt ≤ 99)
theorem cs1_nv {c : Int32} {a : Acc} {m : Nat} (hc : ¬ (smI c = 0 ∧ dgI c = 0)) (h : nvI a m) (hm : m ≤ 1000) : nvI (cs1 c a) (m + 1) := by
  obtain ⟨h1, h2, h3, h4, h5, h6, h7⟩ := h
  unfold cs1
  by_cases q : smI c = 0
  · rw [if_pos q]
    have d : ¬ dgI c = 0 := fun x => hc ⟨q, x⟩
    unfold dgI at d
    have c1 : 48 ≤ c.toInt ∧ c.toInt ≤ 57 := by
      have e48 : (48 : Int32).toInt = 48 := rfl
      have e57 : (57 : Int32).toInt = 57 := rfl
      by_cases x1 : c < 48
      · rw [if_pos x1] at d
        exact absurd rfl d
      · rw [if_neg x1] at d
        by_cases x2 : 57 < c
        · rw [if_pos x2] at d
          exact absurd rfl d
        · rw [Int32.lt_iff_toInt_lt] at x1 x2
          omega
    have e1 : (a.2.1 + 1).toInt = a.2.1.toInt + 1 := i32_p1 (by omega)
    have e3 : (3 : Int32).toInt = 3 := rfl
    have e10 : (10 : Int32).toInt = 10 := rfl
    have e48 : (48 : Int32).toInt = 48 := rfl
    have v1 : ((10 : Int32) * a.2.2).toInt = 10 * a.2.2.toInt := by
      rw [i32_mul (by rw [e10]; omega) (by rw [e10]; omega), e10]
    have v2 : ((10 : Int32) * a.2.2 + c).toInt = 10 * a.2.2.toInt + c.toInt := by
      rw [i32_add (by omega) (by omega), v1]
    have v3 : ((10 : Int32) * a.2.2 + c - 48).toInt = 10 * a.2.2.toInt + c.toInt - 48 := by
      rw [i32_sub (by omega) (by omega), v2, e48]
    by_cases x3 : 3 < a.2.1 + 1
    · rw [if_pos x3]
      rw [Int32.lt_iff_toInt_lt, e1] at x3
      refine ⟨?_, ?_, h3, h4, ?_, ?_, ?_⟩ <;> dsimp only <;> rw [e1] <;> omega
    · rw [if_neg x3]
      rw [Int32.lt_iff_toInt_lt, e1] at x3
      refine ⟨?_, ?_, ?_, ?_, ?_, ?_, ?_⟩ <;> dsimp only <;> (try rw [e1]) <;> (try rw [v3]) <;> omega
  · rw [if_neg q]
    exact ⟨h1, by show a.2.1.toInt ≤ _; omega, h3, h4, h5, h6, h7⟩
theorem cfS_nv {B : Nat → Int32} : ∀ k p (a : Acc) m, (∀ j, j < k → ¬ (smI (B (p + j)) = 0 ∧ dgI (B (p + j)) = 0)) → nvI a m → m + k ≤ 1000 → nvI (cfS B k p a) (m + k) := by
  intro k
  induction k with
  | zero => intro p a m _ h _; exact h
  | succ k ih =>
    intro p a m hj h hm
    have h1 := cs1_nv (hj 0 (by omega)) h (by omega)
    have h2 := ih (p + 1) _ (m + 1) (fun j hk => by
      have := hj (j + 1) (by omega)
      rw [show p + 1 + j = p + (j + 1) from by omega]
      exact this) h1 (by omega)
    rw [show m + (k + 1) = m + 1 + k from by omega]
    exact h2
theorem tokS_nu {B : Nat → Int32} {n p : Nat} (hn : n ≤ 440) : 0 ≤ (tokS B n p).2.2.2.toInt := by
  unfold tokS
  split
  · exact Int.le_refl 0
  · have := rlS_le (B := B) (n - p) p
    have h := (cfS_nv (B := B) (rlS B (n - p) p) p (0, 0, 0) 0 (fun j hj => rlS_al _ _ _ hj) ⟨by decide, by decide, by decide, by decide, by decide, by decide, by decide⟩ (by omega)).2.2.1
    exact h
theorem tokS_gd {B : Nat → Int32} {n p : Nat} (h : (tokS B n p).1 = 2) (h6 : (tokS B n p).2.2.1 ≤ (tokS B n p).2.1 + 6) : okW (slS B (tokS B n p).2.1 ((tokS B n p).2.2.1 - (tokS B n p).2.1)) := by
  by_cases hr : rlS B (n - p) p = 0
  · have hT : tokS B n p = (sgS (B p), p, p + 1, 0) := by
      unfold tokS
      rw [if_pos hr]
    rw [hT] at h
    have h : sgS (B p) = 2 := h
    unfold sgS at h
    split at h
    · rename_i q
      rw [h] at q
      exact absurd q (by decide)
    · exact absurd h (by decide)
  · have hT : tokS B n p = (tyA (cfS B (rlS B (n - p) p) p (0, 0, 0)), p, p + rlS B (n - p) p, (cfS B (rlS B (n - p) p) p (0, 0, 0)).2.2) := by
      unfold tokS
      rw [if_neg hr]
    rw [hT] at h6 ⊢
    dsimp only at h6 ⊢
    rw [Nat.add_sub_cancel_left]
    refine ⟨by rw [slS_len]; omega, fun c hc => ?_⟩
    unfold slS at hc
    obtain ⟨i, hi, rfl⟩ := List.mem_map.mp hc
    exact al_rng (rlS_al _ _ _ (List.mem_range.mp hi))
theorem tlS_gd {B : Nat → Int32} {n : Nat} (hn : n ≤ 440) : ∀ m p, n - p ≤ m → p ≤ n → gdT B (tlS B n p) := by
  intro m
  induction m with
  | zero =>
    intro p h1 h2
    have hm := mn4_le (n := n)
    rw [tlS_end h2 (by omega)]
    intro t ht
    rw [List.mem_singleton.mp ht]
    exact ⟨fun h => absurd h (show ¬ (0 : Int32) = 2 by decide), fun h => absurd h (show ¬ (0 : Int32) = 3 by decide)⟩
  | succ m ih =>
    intro p h1 h2
    have hm := mn4_le (n := n)
    by_cases h : mn4 n ≤ p
    · rw [tlS_end h2 h]
      intro t ht
      rw [List.mem_singleton.mp ht]
      exact ⟨fun h => absurd h (show ¬ (0 : Int32) = 2 by decide), fun h => absurd h (show ¬ (0 : Int32) = 3 by decide)⟩
    · by_cases hb : B p = 32 ∨ B p = 10
      · rw [tlS_bl h hb]
        exact ih (p + 1) (by omega) (by omega)
      · by_cases h1 : (tokS B n p).1 = 1
        · rw [tlS_no h hb h1]
          intro t ht
          rw [List.mem_singleton.mp ht, h1]
          exact ⟨fun h => absurd h (by decide), fun h => absurd h (by decide)⟩
        · rw [tlS_tok h hb h1]
          have h3 := tokS_lt (B := B) (n := n) (p := p)
          have h4 := tokS_le (B := B) (n := n) (p := p) (by omega)
          intro t ht
          rcases List.mem_cons.mp ht with rfl | ht
          · exact ⟨fun h5 h6 => tokS_gd h5 h6, fun _ => tokS_nu hn⟩
          · exact ih _ (by omega) h4 t ht
