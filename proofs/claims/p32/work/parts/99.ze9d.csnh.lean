/-! THE CLASS'S reading of the SNOW -/
def SNO (W : Nat → List Nat) (k : Nat) (M : Mem) : Prop := SQ M ∧ zI M 229 2 = nI k ∧ (∀ i, i < k → oN M 230 i = 231 + i) ∧ ∀ i, i < k → (rN M 236 i = nI (W i).length ∧ (W i).length ≤ 200) ∧ ∀ m y, (W i)[m]? = some y → rN M (231 + i) m = nI y ∧ y < 256
def LEF (L : ROWq) (M : Mem) : Prop := (∀ c, c < 256 → (rN M 237 c).toInt = L c) ∧ (zI M 229 4).toInt = suI L 256
def teF (a k : Nat) : Prop := a = 229 ∧ k = 4
def teW (a : Nat) : Prop := 237 ≤ a ∧ a ≤ 240
noncomputable def lwI (M : Mem) : ROWq := fun j => (rN M 239 j).toInt
noncomputable def hgI (M : Mem) : ROWq := fun j => (rN M 240 j).toInt
section CSNH
variable {e k i j m n r : Nat} {W : Nat → List Nat} {L : ROWq} {l : List Nat} {P : PK} {M M0 M1 M' : Mem} {v : Option Value} {tz y : Int32} {b : Bool} {p : Nat → Nat}
theorem SNO.fz (h : SNO W k M) (hS : SQ M') (hF : FZ teF teW noO M M') (k5 : k ≤ 5) : SNO W k M' := by
  obtain ⟨_, h2, h3, h4⟩ := h
  refine ⟨hS, (hF.fi (fun q => absurd q.2 (by decide))).trans h2, fun i hi => (hF.on (fun q => q)).trans (h3 i hi), fun i hi => ?_⟩
  obtain ⟨⟨a1, a2⟩, a3⟩ := h4 i hi
  refine ⟨⟨(hF.rn (by unfold teW; omega)).trans a1, a2⟩, fun m y hm => ?_⟩
  rw [hF.rn (by unfold teW; omega)]
  exact a3 m y hm
theorem SNO.lt (h : SNO W k M) (hi : i < k) : ∀ y, y ∈ W i → y < 256 := fun y hy => by
  obtain ⟨m, hm⟩ := List.getElem?_of_mem hy
  exact ((h.2.2.2 i hi).2 m y hm).2
theorem drop_at {l : List Nat} {y : Nat} (h : (W i).drop m = y :: l) : (W i)[m]? = some y ∧ (W i).drop (m + 1) = l ∧ m < (W i).length := by
  have h1 : ((W i).drop m)[0]? = some y := by rw [h]; rfl
  rw [List.getElem?_drop, Nat.add_zero] at h1
  refine ⟨h1, ?_, ?_⟩
  · have h2 := congrArg (List.drop 1) h
    rw [List.drop_drop] at h2
    exact h2
  · obtain ⟨h3, _⟩ := List.getElem?_eq_some_iff.mp h1
    exact h3
theorem oI_i (hS : SNO W k M) (hi : i < k) (k5 : k ≤ 5) : oI M 230 (nI i) = 231 + i ∧ rI M 236 (nI i) = nI (W i).length := by
  have ti : (nI i).toInt = (i : Int) := nI_toInt (by omega)
  refine ⟨?_, (rI_n ti).trans (hS.2.2.2 i hi).1.1⟩
  unfold oI
  rw [cl_n ti]
  exact hS.2.2.1 i hi
theorem lf_len (hS : SQ M) : (zrw M 237).length = 256 := (hS.1.row qa_237 qw_50).2
/-- steps taken out, one by one -/
theorem tak_l (k5 : k ≤ 5) (hi : i < k) (ht : tz.toInt = 1 ∨ tz.toInt = -1) : ∀ (l : List Nat) (m : Nat) (M : Mem) (L : ROWq) (b : Bool) (o5 : Option Value) (B : Int), (W i).drop m = l → m ≤ (W i).length → SNO W k M → (∀ c, c < 256 → (rN M 237 c).toInt = L c) → (∀ c, c < 256 → -B ≤ L c ∧ L c ≤ B) → B + (l.length : Int) ≤ 100000000 → Ev none e 46 5 [some (.ref 229), some (.int (nI i)), some (.int tz), some (.int (bI b)), some (.int (nI m)), o5] [] M v M' 0 0 → ∃ b2, v = some (.int (bI b2)) ∧ SQ M' ∧ FZ teF (fun a => a = 237) noO M M' ∧ (∀ c, c < 256 → (rN M' 237 c).toInt = sbR L (ocN l) tz.toInt c) ∧ zI M' 229 4 = zI M 229 4 - tz * nI (W i).length ∧ (tz.toInt = 1 → (b2 = true ↔ b = true ∧ ∀ y, y ∈ l → 0 ≤ sbR L (ocN l) 1 y)) := by
  intro l
  induction l with
  | nil =>
    intro m M L b o5 B hl hmm hS hL hB hb H
    obtain ⟨o1, o2⟩ := oI_i hS hi k5
    have l200 := (hS.2.2.2 i hi).1.2
    have hm : (W i).length ≤ m := List.drop_eq_nil_iff.mp hl
    have tm : (nI m).toInt = (m : Int) := nI_toInt (by omega)
    have z : ∀ c, c < 256 → (rN (wF M 229 4 (zI M 229 4 - tz * rI M 236 (nI i))) 237 c).toInt = sbR L (ocN []) tz.toInt c := fun c hc => by
      rw [rN_wF, hL c hc]
      show _ = L c - tz.toInt * ((0 : Nat) : Int)
      rw [show ((0 : Nat) : Int) = 0 from rfl, Int.mul_zero, Int.sub_zero]
    rcases tak_5 hS.1 H with ⟨_, _, _, r1, r2⟩ | ⟨a1, _⟩ | ⟨a1, _⟩ | ⟨a1, _⟩
    · rw [r2]
      refine ⟨b, r1, hS.1.kf, FZ.wF ⟨rfl, rfl⟩, z, ?_, fun _ => ⟨fun h => ⟨h, fun y hy => by cases hy⟩, fun h => h.1⟩⟩
      rw [fI_wF_eq hS.1.1 qa_229 qi_46_4, o2]
    all_goals exact absurd (Int32.le_iff_toInt_le.mpr (by rw [o2, nI_toInt (by omega), tm]; omega)) a1
  | cons y l ih =>
    intro m M L b o5 B hl hmm hS hL hB hb H
    obtain ⟨o1, o2⟩ := oI_i hS hi k5
    have l200 := (hS.2.2.2 i hi).1.2
    obtain ⟨hm, hl2, hml⟩ := drop_at hl
    obtain ⟨hr, hy⟩ := (hS.2.2.2 i hi).2 m y hm
    have hb : B + ((l.length + 1 : Nat) : Int) ≤ 100000000 := hb
    have tm : (nI m).toInt = (m : Int) := nI_toInt (by omega)
    have ty : (nI y).toInt = (y : Int) := nI_toInt (by omega)
    have e1 : rI M (oI M 230 (nI i)) (nI m) = nI y := by
      rw [o1, rI_n tm, hr]
    have e2 : rI M 237 (nI y) = rN M 237 y := rI_n ty
    have hBy := hB y hy
    have eL := hL y hy
    have s1 : (rN M 237 y - tz).toInt = L y - tz.toInt := by
      rw [i32_sub (by omega) (by omega), eL]
    have F1 : FZ teF (fun a => a = 237) noO M (wI M 237 y (rN M 237 y - tz)) := FZ.wI rfl
    have F1' : FZ teF teW noO M (wI M 237 y (rN M 237 y - tz)) := F1.more (fun _ _ q => q) (fun a q => by have q : a = 237 := q; unfold teW; omega) (fun _ q => q)
    have S1 := hS.fz hS.1.ki F1' k5
    have w1 : rN (wI M 237 y (rN M 237 y - tz)) 237 y = rN M 237 y - tz := rN_wI_eq (by rw [lf_len hS.1]; exact hy)
    have eS : ∀ t : Int, sbR (fun c => L c - t * ((if y = c then 1 else 0 : Nat) : Int)) (ocN l) t = sbR L (ocN (y :: l)) t := fun t => funext (fun c => by
      show L c - t * ((if y = c then 1 else 0 : Nat) : Int) - t * (ocN l c : Int) = L c - t * ((ocN l c + (if y = c then 1 else 0) : Nat) : Int)
      rw [Int.natCast_add, Int.mul_add]
      omega)
    have nx : ∀ (b1 : Bool) (o5 : Option Value), b1 = (b && decide (0 ≤ L y - tz.toInt)) → Ev none e 46 5 [some (.ref 229), some (.int (nI i)), some (.int tz), some (.int (bI b1)), some (.int (nI m + 1)), o5] [] (wI M 237 (nI y).toNatClampNeg (rN M 237 y - tz)) v M' 0 0 → ∃ b2, v = some (.int (bI b2)) ∧ SQ M' ∧ FZ teF (fun a => a = 237) noO M M' ∧ (∀ c, c < 256 → (rN M' 237 c).toInt = sbR L (ocN (y :: l)) tz.toInt c) ∧ zI M' 229 4 = zI M 229 4 - tz * nI (W i).length ∧ (tz.toInt = 1 → (b2 = true ↔ b = true ∧ ∀ x, x ∈ y :: l → 0 ≤ sbR L (ocN (y :: l)) 1 x)) := fun b1 o5 hb1 H => by
      rw [cl_n ty, nI_p1 (by omega)] at H
      obtain ⟨b2, q1, q2, q3, q4, q5, q6⟩ := ih (m + 1) _ (fun c => L c - tz.toInt * ((if y = c then 1 else 0 : Nat) : Int)) b1 o5 (B + 1) hl2 (by omega) S1 (fun c hc => by
        by_cases z : c = y
        · rw [z, w1, s1, if_pos rfl]
          show _ = L y - tz.toInt * 1
          rw [Int.mul_one]
        · rw [rN_wI_ne (fun q => z q.2), hL c hc, if_neg (fun q => z q.symm)]
          show _ = L c - tz.toInt * 0
          rw [Int.mul_zero, Int.sub_zero]) (fun c hc => by
        have := hB c hc
        by_cases z : y = c
        · rw [if_pos z]
          show -(B + 1) ≤ L c - tz.toInt * 1 ∧ L c - tz.toInt * 1 ≤ B + 1
          omega
        · rw [if_neg z]
          show -(B + 1) ≤ L c - tz.toInt * 0 ∧ L c - tz.toInt * 0 ≤ B + 1
          omega) (by omega) H
      rw [eS] at q4
      refine ⟨b2, q1, q2, F1.trans q3, q4, q5.trans (by rw [fI_wI]), fun t1 => ?_⟩
      have q6 := q6 t1
      rw [t1, eS] at q6
      rw [q6, hb1, Bool.and_eq_true, decide_eq_true_eq, t1]
      constructor
      · rintro ⟨⟨g1, g2⟩, g3⟩
        refine ⟨g1, fun x hx => ?_⟩
        rcases List.mem_cons.mp hx with z | z
        · by_cases w : x ∈ l
          · exact g3 x w
          · rw [z] at w ⊢
            show 0 ≤ L y - 1 * ((ocN l y + (if y = y then 1 else 0) : Nat) : Int)
            rw [cn_not w, if_pos rfl]
            omega
        · exact g3 x z
      · rintro ⟨g1, g2⟩
        refine ⟨⟨g1, ?_⟩, fun x hx => g2 x (List.mem_cons_of_mem _ hx)⟩
        have h3 : 0 ≤ L y - 1 * ((ocN l y + (if y = y then 1 else 0) : Nat) : Int) := g2 y List.mem_cons_self
        rw [if_pos rfl] at h3
        omega
    have rw3 : rI (wI M 237 (nI y).toNatClampNeg (rN M 237 y - tz)) 237 (nI y) = rN M 237 y - tz := by
      rw [cl_n ty]
      exact (rI_n ty).trans w1
    have t0 : (0 : Int32).toInt = 0 := rfl
    rcases tak_5 hS.1 H with ⟨a1, _⟩ | ⟨_, a1, _, _, _, _, _, H⟩ | ⟨_, a1, a2, _, _, _, _, _, _, H⟩ | ⟨_, a1, a2, _, _, _, _, _, _, H⟩
    · have := Int32.le_iff_toInt_le.mp a1
      rw [o2, nI_toInt (by omega), tm] at this
      omega
    · rw [bI_0] at a1
      rw [e1, e2] at H
      exact nx false _ (by rw [a1]; rfl) H
    · rw [e1, e2, rw3] at a2
      rw [e1, e2] at H
      have a2 := Int32.lt_iff_toInt_lt.mp a2
      rw [s1] at a2
      exact nx false _ (by rw [decide_eq_false (show ¬ 0 ≤ L y - tz.toInt by omega), Bool.and_false]) H
    · rw [e1, e2, rw3, Int32.lt_iff_toInt_lt, s1] at a2
      rw [e1, e2] at H
      rw [bI_0, Bool.not_eq_false] at a1
      exact nx true _ (by rw [a1, decide_eq_true (show 0 ≤ L y - tz.toInt by omega)]; rfl) H
theorem tak_ok (k5 : k ≤ 5) (hi : i < k) (hS : SNO W k M) (hL : LEF L M) (ht : tz.toInt = 1 ∨ tz.toInt = -1) (hB : ∀ c, c < 256 → -10000000 ≤ L c ∧ L c ≤ 10000000) (hs : -1000000 ≤ suI L 256 ∧ suI L 256 ≤ 1100000000) (H : Ev none e 46 0 [some (.ref 229), some (.int (nI i)), some (.int tz), none, none, none] [] M v M' 0 0) : ∃ b2, v = some (.int (bI b2)) ∧ SQ M' ∧ FZ teF (fun a => a = 237) noO M M' ∧ LEF (sbR L (ocN (W i)) tz.toInt) M' ∧ (tz.toInt = 1 → (b2 = true ↔ ∀ y, y ∈ W i → 0 ≤ sbR L (ocN (W i)) 1 y)) := by
  have l200 := (hS.2.2.2 i hi).1.2
  obtain ⟨b2, q1, q2, q3, q4, q5, q6⟩ := tak_l k5 hi ht (W i) 0 M L true none 10000000 rfl (Nat.zero_le _) hS hL.1 hB (by omega) (tak_0 hS.1 H)
  refine ⟨b2, q1, q2, q3, ⟨q4, ?_⟩, fun t1 => (q6 t1).trans ⟨fun h => h.2, fun h => ⟨rfl, h⟩⟩⟩
  have tl : (nI (W i).length).toInt = ((W i).length : Int) := nI_toInt (by omega)
  have hz := hL.2
  rw [suI_sub, cn_sum (hS.lt hi), q5]
  rcases ht with t1 | t1
  · have e1 : tz = 1 := Int32.toInt_inj.mp t1
    rw [e1, Int32.one_mul, i32_sub (by omega) (by omega), hz, tl]
    show _ = _ - 1 * _
    rw [Int.one_mul]
  · have e1 : (tz * nI (W i).length).toInt = -((W i).length : Int) := by
      rw [i32_mul (by rw [t1, tl]; omega) (by rw [t1, tl]; omega), t1, tl]
      omega
    rw [i32_sub (by omega) (by omega), hz, e1, t1]
    omega
/-- whether the rest can take all -/
theorem men_l (k5 : k ≤ 5) (hS : SNO W k M) (hz : (zI M 229 4).toInt = suI L 256) : ∀ (r q : Nat) (cz x : Int32), i + q + r = k → cz.toInt = 9 * (suN (fun j => (W (i + j)).length) q : Int) → Ev none e 45 4 [some (.ref 229), some (.int x), some (.int cz), some (.int (nI (i + q)))] [] M v M' 0 0 → v = some (.int (bI (decide (suI L 256 ≤ 9 * (suN (fun j => (W (i + j)).length) (q + r) : Int))))) ∧ M' = M := by
  have ek := hS.2.1
  have tk : (nI k).toInt = (k : Int) := nI_toInt (by omega)
  have t9 : (9 : Int32).toInt = 9 := rfl
  have t5 : (5 : Int32).toInt = 5 := rfl
  intro r
  induction r with
  | zero =>
    intro q cz x hq hc H
    have te : (nI (i + q)).toInt = ((i + q : Nat) : Int) := nI_toInt (by omega)
    have hle : zI M 229 2 ≤ nI (i + q) := Int32.le_iff_toInt_le.mpr (by rw [ek, tk, te]; omega)
    rw [Nat.add_zero]
    rcases men_4 hS.1 H with ⟨_, a2, r1, r2⟩ | ⟨_, a2, r1, r2⟩ | ⟨a1, _⟩ | ⟨a1, _⟩ | ⟨a1, _⟩
    · have a2 := Int32.lt_iff_toInt_lt.mp a2
      refine ⟨?_, r2⟩
      rw [r1, decide_eq_false (by omega)]
      rfl
    · rw [Int32.lt_iff_toInt_lt] at a2
      refine ⟨?_, r2⟩
      rw [r1, decide_eq_true (by omega)]
      rfl
    all_goals exact absurd hle a1
  | succ r ih =>
    intro q cz x hq hc H
    have te : (nI (i + q)).toInt = ((i + q : Nat) : Int) := nI_toInt (by omega)
    have hgt : ¬ zI M 229 2 ≤ nI (i + q) := fun z => by
      have := Int32.le_iff_toInt_le.mp z
      rw [ek, tk, te] at this
      omega
    have h5 : ¬ (5 : Int32) ≤ nI (i + q) := fun z => by
      have := Int32.le_iff_toInt_le.mp z
      rw [te] at this
      omega
    rcases men_4 hS.1 H with ⟨a1, _⟩ | ⟨a1, _⟩ | ⟨_, a1, _⟩ | ⟨_, a1, _⟩ | ⟨_, _, _, H⟩
    · exact absurd a1 hgt
    · exact absurd a1 hgt
    · exact absurd a1 h5
    · exact absurd a1 h5
    · have hl : i + q < k := by omega
      obtain ⟨_, o2⟩ := oI_i hS hl k5
      have l200 := (hS.2.2.2 (i + q) hl).1.2
      have tl : (nI (W (i + q)).length).toInt = ((W (i + q)).length : Int) := nI_toInt (by omega)
      have m9 : (9 * nI (W (i + q)).length).toInt = 9 * ((W (i + q)).length : Int) := by rw [i32_mul (by rw [t9, tl]; omega) (by rw [t9, tl]; omega), t9, tl]
      have hs : suN (fun j => (W (i + j)).length) q ≤ q * 200 := suN_le q 200 (fun c hc => by
        exact (hS.2.2.2 (i + c) (by omega)).1.2)
      rw [o2, nI_p1 (by omega)] at H
      have := ih (q + 1) (cz + 9 * nI (W (i + q)).length) x (by omega) (by
        rw [i32_add (by omega) (by omega), hc, m9]
        show _ = 9 * ((suN (fun j => (W (i + j)).length) q + (W (i + q)).length : Nat) : Int)
        omega) (by rw [← Nat.add_assoc]; exact H)
      rw [show q + 1 + r = q + (r + 1) by omega] at this
      exact this
theorem men_ok (k5 : k ≤ 5) (hS : SNO W k M) (hL : LEF L M) (hi : i ≤ k) (H : Ev none e 45 0 [some (.ref 229), some (.int (nI i)), none, none] [] M v M' 0 0) : v = some (.int (bI (decide (suI L 256 ≤ 9 * (suN (fun j => (W (i + j)).length) (k - i) : Int))))) ∧ M' = M := by
  have := men_l (e := e) (v := v) (M' := M') (i := i) k5 hS hL.2 (k - i) 0 0 (nI i) (by omega) rfl (men_0 hS.1 H)
  rw [Nat.zero_add] at this
  exact this
/-- a telling found -/
theorem not_l (k5 : k ≤ 5) (hp : ∀ j, j < k → (rN M0 238 j).toInt = (p j : Int)) : ∀ (r j : Nat) (M : Mem), j + r = k → SQ M → zI M 229 2 = nI k → FZ noF (fun a => a = 239 ∨ a = 240) noO M0 M → (∀ q, q < j → lwI M q = (if (p q : Int) < lwI M0 q then (p q : Int) else lwI M0 q) ∧ hgI M q = (if hgI M0 q < (p q : Int) then (p q : Int) else hgI M0 q)) → (∀ q, j ≤ q → q < k → lwI M q = lwI M0 q ∧ hgI M q = hgI M0 q) → Ev none e 47 2 [some (.ref 229), some (.int (nI j))] [] M v M' 0 0 → v = some (.int 1) ∧ SQ M' ∧ FZ noF (fun a => a = 239 ∨ a = 240) noO M0 M' ∧ ∀ q, q < k → lwI M' q = (if (p q : Int) < lwI M0 q then (p q : Int) else lwI M0 q) ∧ hgI M' q = (if hgI M0 q < (p q : Int) then (p q : Int) else hgI M0 q) := by
  have tk : (nI k).toInt = (k : Int) := nI_toInt (by omega)
  have t5 : (5 : Int32).toInt = 5 := rfl
  intro r
  induction r with
  | zero =>
    intro j M hj hS ek hF h1 h2 H
    have tj : (nI j).toInt = (j : Int) := nI_toInt (by omega)
    rcases not_2 hS H with ⟨_, r1, r2⟩ | ⟨a1, _⟩ | ⟨a1, _⟩
    · rw [r2]
      exact ⟨r1, hS, hF, fun q hq => h1 q (by omega)⟩
    all_goals exact absurd (Int32.le_iff_toInt_le.mpr (by rw [ek, tk, tj]; omega)) a1
  | succ r ih =>
    intro j M hj hS ek hF h1 h2 H
    have tj : (nI j).toInt = (j : Int) := nI_toInt (by omega)
    rcases not_2 hS H with ⟨a1, _⟩ | ⟨_, a1, _⟩ | ⟨_, _, _, _, _, _, _, _, H⟩
    · have := Int32.le_iff_toInt_le.mp a1
      rw [ek, tk, tj] at this
      omega
    · have := Int32.le_iff_toInt_le.mp a1
      rw [t5, tj] at this
      omega
    · rw [cl_n tj, rI_n tj, rI_n tj, rI_n tj, nI_p1 (by omega)] at H
      have e8 : rN M 238 j = rN M0 238 j := hF.rn (by omega)
      have ep := hp j (by omega)
      rw [← e8] at ep
      obtain ⟨g1, g2⟩ := h2 j (Nat.le_refl _) (by omega)
      have S1 : SQ (wI M 239 j (if rN M 238 j < rN M 239 j then rN M 238 j else rN M 239 j)) := hS.ki
      have len9 : (zrw M 239).length = 5 := (hS.1.row qa_239 qw_52).2
      have len0 : (zrw (wI M 239 j (if rN M 238 j < rN M 239 j then rN M 238 j else rN M 239 j)) 240).length = 5 := (S1.1.row qa_240 qw_53).2
      have F1 : FZ noF (fun a => a = 239 ∨ a = 240) noO M (wI M 239 j (if rN M 238 j < rN M 239 j then rN M 238 j else rN M 239 j)) := FZ.wI (Or.inl rfl)
      have F2 : FZ noF (fun a => a = 239 ∨ a = 240) noO (wI M 239 j (if rN M 238 j < rN M 239 j then rN M 238 j else rN M 239 j)) (wI (wI M 239 j (if rN M 238 j < rN M 239 j then rN M 238 j else rN M 239 j)) 240 j (if rN M 240 j < rN M 238 j then rN M 238 j else rN M 240 j)) := FZ.wI (Or.inr rfl)
      refine ih (j + 1) _ (by omega) S1.ki (by rw [fI_wI, fI_wI]; exact ek) (hF.trans (F1.trans F2)) (fun q hq => ?_) (fun q h3 h4 => ?_) H
      · by_cases z : q = j
        · rw [z]
          constructor
          · show (rN (wI _ 240 j _) 239 j).toInt = _
            rw [rN_wI_ne (fun q => absurd q.1 (by decide)), rN_wI_eq (by omega)]
            have g1 : (rN M 239 j).toInt = lwI M0 j := g1
            by_cases w : rN M 238 j < rN M 239 j
            · rw [if_pos w]
              have w := Int32.lt_iff_toInt_lt.mp w
              rw [if_pos (by omega), ep]
            · rw [if_neg w]
              rw [Int32.lt_iff_toInt_lt] at w
              rw [if_neg (by omega), g1]
          · show (rN (wI _ 240 j _) 240 j).toInt = _
            rw [rN_wI_eq (by omega)]
            have g2 : (rN M 240 j).toInt = hgI M0 j := g2
            by_cases w : rN M 240 j < rN M 238 j
            · rw [if_pos w]
              have w := Int32.lt_iff_toInt_lt.mp w
              rw [if_pos (by omega), ep]
            · rw [if_neg w]
              rw [Int32.lt_iff_toInt_lt] at w
              rw [if_neg (by omega), g2]
        · have := h1 q (by omega)
          unfold lwI hgI at this ⊢
          rw [rN_wI_ne (fun q => absurd q.1 (by decide)), rN_wI_ne (fun y => z y.2), rN_wI_ne (fun y => z y.2), rN_wI_ne (fun q => absurd q.1 (by decide))]
          exact this
      · have := h2 q (by omega) h4
        unfold lwI hgI at this ⊢
        rw [rN_wI_ne (fun q => absurd q.1 (by decide)), rN_wI_ne (fun y => by omega), rN_wI_ne (fun y => by omega), rN_wI_ne (fun q => absurd q.1 (by decide))]
        exact this
theorem not_ok (k5 : k ≤ 5) (hS : SNO W k M) (hp : ∀ j, j < k → (rN M 238 j).toInt = (p j : Int)) (H : Ev none e 47 0 [some (.ref 229), none] [] M v M' 0 0) : v = some (.int 1) ∧ SQ M' ∧ FZ noF (fun a => a = 239 ∨ a = 240) noO M M' ∧ mnS (fun t => ∀ j, j < k → t j = p j) k (lwI M) (lwI M') ∧ mxS (fun t => ∀ j, j < k → t j = p j) k (hgI M) (hgI M') := by
  obtain ⟨r1, r2, r3, r4⟩ := not_l k5 hp k 0 M (by omega) hS.1 hS.2.1 (FZ.refl _) (fun q hq => absurd hq (Nat.not_lt_zero q)) (fun _ _ _ => ⟨rfl, rfl⟩) (not_0 hS.1 H)
  refine ⟨r1, r2, r3, fun j hj => ?_, fun j hj => ?_⟩
  · have e := (r4 j hj).1
    rw [e]
    by_cases w : (p j : Int) < lwI M j
    · rw [if_pos w]
      exact ⟨by omega, fun t ht => by rw [ht j hj]; exact Int.le_refl _, Or.inr ⟨p, fun _ _ => rfl, rfl⟩⟩
    · rw [if_neg w]
      exact ⟨Int.le_refl _, fun t ht => by rw [ht j hj]; omega, Or.inl rfl⟩
  · have e := (r4 j hj).2
    rw [e]
    by_cases w : hgI M j < (p j : Int)
    · rw [if_pos w]
      exact ⟨by omega, fun t ht => by rw [ht j hj]; exact Int.le_refl _, Or.inr ⟨p, fun _ _ => rfl, rfl⟩⟩
    · rw [if_neg w]
      exact ⟨Int.le_refl _, fun t ht => by rw [ht j hj]; omega, Or.inl rfl⟩
end CSNH
