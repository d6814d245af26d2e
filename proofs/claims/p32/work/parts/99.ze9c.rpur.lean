/-! THE TELLINGS of a SNOW, in themselves: steps of WAYS (lists of cells), what is left of each cell -/
abbrev ROWq : Type := Nat → Int
noncomputable def suN (f : Nat → Nat) : Nat → Nat
  | 0 => 0
  | n + 1 => suN f n + f n
noncomputable def suI (f : ROWq) : Nat → Int
  | 0 => 0
  | n + 1 => suI f n + f n
noncomputable def zroB (L : ROWq) : Nat → Bool
  | 0 => true
  | n + 1 => zroB L n && decide (L n = 0)
/-- how often a cell is in a list -/
noncomputable def ocN : List Nat → Nat → Nat
  | [], _ => 0
  | y :: l, c => ocN l c + (if y = c then 1 else 0)
noncomputable def sbR (L : ROWq) (f : Nat → Nat) (t : Int) : ROWq := fun c => L c - t * (f c : Int)
/-- how many tellings for the WAYS i .. i + r - 1 -/
noncomputable def ndN (W : Nat → List Nat) : Nat → Nat → ROWq → Nat
  | 0, _, L => if zroB L 256 = true then 1 else 0
  | r + 1, i, L => suN (fun d => ndN W r (i + 1) (sbR L (ocN (W i)) (d : Int))) 10
/-- a telling -/
def gdTl (W : Nat → List Nat) : Nat → Nat → ROWq → (Nat → Nat) → Prop
  | 0, _, L, _ => ∀ c, c < 256 → L c = 0
  | r + 1, i, L, t => t i ≤ 9 ∧ gdTl W r (i + 1) (sbR L (ocN (W i)) (t i : Int)) t
/-- the least, of what was and of the tellings in S -/
def mnS (S : (Nat → Nat) → Prop) (k : Nat) (lo lo2 : ROWq) : Prop := ∀ j, j < k → lo2 j ≤ lo j ∧ (∀ t, S t → lo2 j ≤ (t j : Int)) ∧ (lo2 j = lo j ∨ ∃ t, S t ∧ lo2 j = (t j : Int))
def mxS (S : (Nat → Nat) → Prop) (k : Nat) (hi hi2 : ROWq) : Prop := ∀ j, j < k → hi j ≤ hi2 j ∧ (∀ t, S t → (t j : Int) ≤ hi2 j) ∧ (hi2 j = hi j ∨ ∃ t, S t ∧ hi2 j = (t j : Int))
section RPUR
variable {W : Nat → List Nat} {S S2 U : (Nat → Nat) → Prop} {f g : Nat → Nat} {L L2 lo lo1 lo2 : ROWq} {l : List Nat} {n m k c i r y : Nat} {t : Nat → Nat} {z : Int}
theorem suN_congr : ∀ n, (∀ c, c < n → f c = g c) → suN f n = suN g n := by
  intro n
  induction n with
  | zero => intro _; rfl
  | succ n ih =>
    intro h
    unfold suN
    rw [ih (fun c hc => h c (by omega)), h n (by omega)]
theorem suN_add : ∀ n, suN (fun c => f c + g c) n = suN f n + suN g n := by
  intro n
  induction n with
  | zero => rfl
  | succ n ih =>
    unfold suN
    rw [ih]
    omega
theorem suN_0 : ∀ n, (∀ c, c < n → f c = 0) → suN f n = 0 := by
  intro n
  induction n with
  | zero => intro _; rfl
  | succ n ih =>
    intro h
    unfold suN
    rw [ih (fun c hc => h c (by omega)), h n (by omega)]
theorem suN_pos : ∀ n, suN f n ≠ 0 → ∃ c, c < n ∧ f c ≠ 0 := by
  intro n
  induction n with
  | zero => intro h; exact absurd rfl h
  | succ n ih =>
    intro h
    by_cases q : f n = 0
    · obtain ⟨c, c1, c2⟩ := ih (fun z => h (by unfold suN; rw [z, q]))
      exact ⟨c, by omega, c2⟩
    · exact ⟨n, Nat.lt_succ_self n, q⟩
theorem suN_le : ∀ n m, (∀ c, c < n → f c ≤ m) → suN f n ≤ n * m := by
  intro n m
  induction n with
  | zero => intro _; exact Nat.zero_le _
  | succ n ih =>
    intro h
    have h1 := ih (fun c hc => h c (by omega))
    have h2 := h n (by omega)
    unfold suN
    rw [Nat.succ_mul]
    omega
theorem suN_cut : ∀ n m, m ≤ n → (∀ c, m ≤ c → c < n → f c = 0) → suN f n = suN f m := by
  intro n
  induction n with
  | zero =>
    intro m hm _
    rw [show m = 0 by omega]
  | succ n ih =>
    intro m hm h
    by_cases q : m = n + 1
    · rw [q]
    · show suN f n + f n = suN f m
      rw [ih m (by omega) (fun c h1 h2 => h c h1 (by omega)), h n (by omega) (by omega), Nat.add_zero]
theorem suN_one : ∀ n, suN (fun c => if y = c then 1 else 0) n = if y < n then 1 else 0 := by
  intro n
  induction n with
  | zero => rfl
  | succ n ih =>
    unfold suN
    rw [ih]
    by_cases q : y = n
    · rw [if_pos q, if_neg (show ¬ y < n by omega), if_pos (show y < n + 1 by omega)]
    · rw [if_neg q]
      by_cases q2 : y < n
      · rw [if_pos q2, if_pos (show y < n + 1 by omega)]
      · rw [if_neg q2, if_neg (show ¬ y < n + 1 by omega)]
theorem cn_sum (h : ∀ y, y ∈ l → y < n) : suN (ocN l) n = l.length := by
  induction l with
  | nil => exact suN_0 n (fun _ _ => rfl)
  | cons y l ih =>
    have e : suN (ocN (y :: l)) n = suN (fun c => ocN l c + (if y = c then 1 else 0)) n := suN_congr n (fun _ _ => rfl)
    rw [e, suN_add, ih (fun z hz => h z (List.mem_cons_of_mem _ hz)), suN_one, if_pos (h y List.mem_cons_self)]
    rfl
theorem cn_not (h : y ∉ l) : ocN l y = 0 := by
  induction l with
  | nil => rfl
  | cons x l ih =>
    unfold ocN
    rw [ih (fun q => h (List.mem_cons_of_mem _ q)), if_neg (fun q => h (by rw [q]; exact List.mem_cons_self))]
theorem cn_in (h : y ∈ l) : 1 ≤ ocN l y := by
  induction l with
  | nil => cases h
  | cons x l ih =>
    unfold ocN
    rcases List.mem_cons.mp h with q | q
    · rw [if_pos q.symm]
      omega
    · have := ih q
      omega
theorem cn_le : ocN l y ≤ l.length := by
  induction l with
  | nil => exact Nat.le_refl _
  | cons x l ih =>
    unfold ocN
    show _ ≤ l.length + 1
    split <;> omega
theorem suI_sub : ∀ n, suI (sbR L f z) n = suI L n - z * (suN f n : Int) := by
  intro n
  induction n with
  | zero => show (0 : Int) = 0 - z * 0; rw [Int.mul_zero]; rfl
  | succ n ih =>
    have e : z * ((suN f n + f n : Nat) : Int) = z * (suN f n : Int) + z * (f n : Int) := by rw [Int.natCast_add, Int.mul_add]
    show suI (sbR L f z) n + (L n - z * (f n : Int)) = suI L n + L n - z * ((suN f n + f n : Nat) : Int)
    rw [ih, e]
    omega
theorem suI_congr : ∀ n, (∀ c, c < n → L c = L2 c) → suI L n = suI L2 n := by
  intro n
  induction n with
  | zero => intro _; rfl
  | succ n ih =>
    intro h
    show suI L n + L n = suI L2 n + L2 n
    rw [ih (fun c hc => h c (by omega)), h n (by omega)]
theorem suI_ge : ∀ n, (∀ c, c < n → 0 ≤ L c) → 0 ≤ suI L n ∧ ∀ c, c < n → L c ≤ suI L n := by
  intro n
  induction n with
  | zero => intro _; exact ⟨Int.le_refl _, fun c hc => absurd hc (Nat.not_lt_zero c)⟩
  | succ n ih =>
    intro h
    obtain ⟨h1, h2⟩ := ih (fun c hc => h c (by omega))
    have h3 := h n (by omega)
    refine ⟨by show 0 ≤ suI L n + L n; omega, fun c hc => ?_⟩
    show L c ≤ suI L n + L n
    by_cases q : c = n
    · rw [q]
      omega
    · have := h2 c (by omega)
      omega
theorem suI_le : ∀ n (B : Int), (∀ c, c < n → L c ≤ B) → suI L n ≤ (n : Int) * B := by
  intro n B
  induction n with
  | zero => intro _; show (0 : Int) ≤ 0 * B; rw [Int.zero_mul]; exact Int.le_refl _
  | succ n ih =>
    intro h
    have h1 := ih (fun c hc => h c (by omega))
    have h2 := h n (by omega)
    have e : ((n + 1 : Nat) : Int) * B = (n : Int) * B + B := by rw [Int.natCast_add, Int.add_mul]; show _ + 1 * B = _; rw [Int.one_mul]
    show suI L n + L n ≤ _
    rw [e]
    omega
theorem suI_0 (h : ∀ c, c < n → L c = 0) : suI L n = 0 := by
  induction n with
  | zero => rfl
  | succ n ih =>
    show suI L n + L n = 0
    rw [ih (fun c hc => h c (by omega)), h n (by omega)]
    rfl
theorem zroB_iff : ∀ n, zroB L n = true ↔ ∀ c, c < n → L c = 0 := by
  intro n
  induction n with
  | zero => exact ⟨fun _ c hc => absurd hc (Nat.not_lt_zero c), fun _ => rfl⟩
  | succ n ih =>
    unfold zroB
    rw [Bool.and_eq_true, decide_eq_true_eq, ih]
    constructor
    · rintro ⟨h1, h2⟩ c hc
      by_cases q : c = n
      · rw [q]
        exact h2
      · exact h1 c (by omega)
    · exact fun h => ⟨fun c hc => h c (by omega), h n (by omega)⟩
theorem sbR_sb {a b : Int} : sbR (sbR L f a) f b = sbR L f (a + b) := funext (fun c => by
  unfold sbR
  rw [Int.add_mul]
  omega)
theorem sbR_0 : sbR L f 0 = L := funext (fun c => by
  unfold sbR
  rw [Int.zero_mul]
  omega)
/-- a telling leaves nothing below 0 -/
theorem gd_ge : ∀ (r i : Nat) (L : ROWq), gdTl W r i L t → ∀ c, c < 256 → 0 ≤ L c := by
  intro r
  induction r with
  | zero => intro i L h c hc; rw [h c hc]; exact Int.le_refl _
  | succ r ih =>
    intro i L h c hc
    have h1 : 0 ≤ L c - (t i : Int) * (ocN (W i) c : Int) := ih (i + 1) _ h.2 c hc
    have : 0 ≤ (t i : Int) * (ocN (W i) c : Int) := Int.mul_nonneg (by omega) (by omega)
    omega
/-- a telling takes no more than nine goings of each WAY -/
theorem gd_sum' {k : Nat} (hW : ∀ i, i < k → ∀ y ∈ W i, y < 256) : ∀ (r i : Nat) (L : ROWq), i + r ≤ k → gdTl W r i L t → suI L 256 ≤ 9 * (suN (fun j => (W (i + j)).length) r : Int) := by
  intro r
  induction r with
  | zero =>
    intro i L _ h
    rw [suI_0 h]
    exact Int.le_refl _
  | succ r ih =>
    intro i L hk h
    have h1 := ih (i + 1) _ (by omega) h.2
    rw [suI_sub, cn_sum (hW i (by omega))] at h1
    have e : suN (fun j => (W (i + j)).length) (r + 1) = (W i).length + suN (fun j => (W (i + 1 + j)).length) r := by
      have q : ∀ m, suN (fun j => (W (i + j)).length) (m + 1) = (W i).length + suN (fun j => (W (i + 1 + j)).length) m := by
        intro m
        induction m with
        | zero => show 0 + (W (i + 0)).length = (W i).length + 0; rw [Nat.add_zero]; omega
        | succ m ih2 =>
          have s1 : suN (fun j => (W (i + j)).length) (m + 1 + 1) = suN (fun j => (W (i + j)).length) (m + 1) + (W (i + (m + 1))).length := rfl
          have s2 : suN (fun j => (W (i + 1 + j)).length) (m + 1) = suN (fun j => (W (i + 1 + j)).length) m + (W (i + 1 + m)).length := rfl
          rw [s1, s2, ih2, show i + (m + 1) = i + 1 + m by omega]
          omega
      exact q r
    rw [e]
    have h9 := h.1
    have : (t i : Int) * ((W i).length : Int) ≤ 9 * ((W i).length : Int) := Int.mul_le_mul_of_nonneg_right (by omega) (by omega)
    have e2 : 9 * (((W i).length + suN (fun j => (W (i + 1 + j)).length) r : Nat) : Int) = 9 * ((W i).length : Int) + 9 * (suN (fun j => (W (i + 1 + j)).length) r : Int) := by rw [Int.natCast_add, Int.mul_add]
    omega
theorem gd_congr : ∀ (r i : Nat) (L : ROWq) (t t2 : Nat → Nat), (∀ j, i ≤ j → t j = t2 j) → gdTl W r i L t → gdTl W r i L t2 := by
  intro r
  induction r with
  | zero => intro i L t t2 _ h; exact h
  | succ r ih =>
    intro i L t t2 he h
    have e := he i (Nat.le_refl _)
    refine ⟨by rw [← e]; exact h.1, ?_⟩
    rw [← e]
    exact ih (i + 1) _ t t2 (fun j hj => he j (by omega)) h.2
theorem nd_pos : ∀ (r i : Nat) (L : ROWq), ndN W r i L ≠ 0 → ∃ t, gdTl W r i L t := by
  intro r
  induction r with
  | zero =>
    intro i L h
    refine ⟨fun _ => 0, ?_⟩
    by_cases q : zroB L 256 = true
    · exact (zroB_iff 256).mp q
    · exact absurd (if_neg q) h
  | succ r ih =>
    intro i L h
    obtain ⟨d, d1, d2⟩ := suN_pos 10 h
    obtain ⟨t, ht⟩ := ih (i + 1) _ d2
    refine ⟨fun j => if j = i then d else t j, ?_, ?_⟩
    · show (if i = i then d else t i) ≤ 9
      rw [if_pos rfl]
      omega
    · show gdTl W r (i + 1) (sbR L (ocN (W i)) ((if i = i then d else t i : Nat) : Int)) _
      rw [if_pos rfl]
      exact gd_congr r (i + 1) _ t _ (fun j hj => by rw [if_neg (by omega)]) ht
theorem nd_0 (h : ∀ t, ¬ gdTl W r i L t) : ndN W r i L = 0 := by
  by_cases q : ndN W r i L = 0
  · exact q
  · obtain ⟨t, ht⟩ := nd_pos r i L q
    exact absurd ht (h t)
theorem nd_ne : ∀ (r i : Nat) (L : ROWq), gdTl W r i L t → ndN W r i L ≠ 0 := by
  intro r
  induction r with
  | zero =>
    intro i L h
    show (if zroB L 256 = true then 1 else 0) ≠ 0
    rw [if_pos ((zroB_iff 256).mpr h)]
    decide
  | succ r ih =>
    intro i L h
    have h1 := ih (i + 1) _ h.2
    have h9 := h.1
    intro q
    have z : ∀ n : Nat, (∀ m : Nat, m < n → ndN W r (i + 1) (sbR L (ocN (W i)) (m : Int)) ≤ suN (fun d => ndN W r (i + 1) (sbR L (ocN (W i)) (d : Int))) n) := by
      intro n
      induction n with
      | zero => intro m hm; exact absurd hm (Nat.not_lt_zero m)
      | succ n ih2 =>
        intro m hm
        show _ ≤ suN _ n + ndN W r (i + 1) (sbR L (ocN (W i)) (n : Int))
        by_cases e : m = n
        · rw [e]
          omega
        · have := ih2 m (by omega)
          omega
    have := z 10 (t i) (by omega)
    have q : suN (fun d => ndN W r (i + 1) (sbR L (ocN (W i)) (d : Int))) 10 = 0 := q
    omega
theorem nd_le : ∀ (r i : Nat) (L : ROWq), ndN W r i L ≤ 10 ^ r := by
  intro r
  induction r with
  | zero =>
    intro i L
    show (if zroB L 256 = true then 1 else 0) ≤ 1
    split <;> omega
  | succ r ih =>
    intro i L
    have h := suN_le (f := fun d => ndN W r (i + 1) (sbR L (ocN (W i)) (d : Int))) 10 (10 ^ r) (fun d _ => ih (i + 1) _)
    rw [Nat.pow_succ, Nat.mul_comm]
    exact h
/-! the least, the greatest -/
theorem mnS.refl (h : ∀ t, ¬ S t) : mnS S k lo lo := fun j _ => ⟨Int.le_refl _, fun t ht => absurd ht (h t), Or.inl rfl⟩
theorem mxS.refl (h : ∀ t, ¬ S t) : mxS S k lo lo := fun j _ => ⟨Int.le_refl _, fun t ht => absurd ht (h t), Or.inl rfl⟩
theorem mnS.step (h1 : mnS S k lo lo1) (h2 : mnS S2 k lo1 lo2) (hU : ∀ t, U t ↔ S t ∨ S2 t) : mnS U k lo lo2 := fun j hj => by
  obtain ⟨a1, a2, a3⟩ := h1 j hj
  obtain ⟨b1, b2, b3⟩ := h2 j hj
  refine ⟨Int.le_trans b1 a1, fun t ht => ?_, ?_⟩
  · rcases (hU t).mp ht with q | q
    · exact Int.le_trans b1 (a2 t q)
    · exact b2 t q
  · rcases b3 with q | ⟨t, q1, q2⟩
    · rcases a3 with w | ⟨t, w1, w2⟩
      · exact Or.inl (q.trans w)
      · exact Or.inr ⟨t, (hU t).mpr (Or.inl w1), q.trans w2⟩
    · exact Or.inr ⟨t, (hU t).mpr (Or.inr q1), q2⟩
theorem mxS.step (h1 : mxS S k lo lo1) (h2 : mxS S2 k lo1 lo2) (hU : ∀ t, U t ↔ S t ∨ S2 t) : mxS U k lo lo2 := fun j hj => by
  obtain ⟨a1, a2, a3⟩ := h1 j hj
  obtain ⟨b1, b2, b3⟩ := h2 j hj
  refine ⟨Int.le_trans a1 b1, fun t ht => ?_, ?_⟩
  · rcases (hU t).mp ht with q | q
    · exact Int.le_trans (a2 t q) b1
    · exact b2 t q
  · rcases b3 with q | ⟨t, q1, q2⟩
    · rcases a3 with w | ⟨t, w1, w2⟩
      · exact Or.inl (q.trans w)
      · exact Or.inr ⟨t, (hU t).mpr (Or.inl w1), q.trans w2⟩
    · exact Or.inr ⟨t, (hU t).mpr (Or.inr q1), q2⟩
end RPUR
