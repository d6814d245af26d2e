/-! THE CHECKER, 1: linear forms over numbered unknowns, intervals, facts (each a form that is not below 0) -/
abbrev Ln : Type := List (Nat × Int)
abbrev Lin : Type := Ln × Int
abbrev Iv : Type := Int × Int
noncomputable def iLe (a b : Int) : Bool := match b - a with
  | .ofNat _ => true
  | .negSucc _ => false
theorem iLe_iff {a b : Int} : iLe a b = true ↔ a ≤ b := by
  unfold iLe
  cases h : b - a with
  | ofNat n => simp only [true_iff]; have : b - a = (n : Int) := h; omega
  | negSucc n => simp only [Bool.false_eq_true, false_iff]; have : b - a = -((n : Int) + 1) := by rw [h]; exact Int.negSucc_eq n
                 omega
noncomputable def iMin (a b : Int) : Int := cond (iLe a b) a b
noncomputable def iMax (a b : Int) : Int := cond (iLe a b) b a
theorem iMin_le {a b : Int} : iMin a b ≤ a ∧ iMin a b ≤ b := by
  unfold iMin
  cases h : iLe a b with
  | true => have := iLe_iff.mp h; exact ⟨Int.le_refl _, this⟩
  | false => have : ¬ a ≤ b := fun q => by rw [iLe_iff.mpr q] at h; cases h
             exact ⟨by show b ≤ a; omega, Int.le_refl _⟩
theorem le_iMax {a b : Int} : a ≤ iMax a b ∧ b ≤ iMax a b := by
  unfold iMax
  cases h : iLe a b with
  | true => have := iLe_iff.mp h; exact ⟨this, Int.le_refl _⟩
  | false => have : ¬ a ≤ b := fun q => by rw [iLe_iff.mpr q] at h; cases h
             exact ⟨Int.le_refl _, by show b ≤ a; omega⟩
theorem iMax_or (a b : Int) : iMax a b = a ∨ iMax a b = b := by
  unfold iMax
  cases iLe a b with
  | true => exact Or.inr rfl
  | false => exact Or.inl rfl
theorem iMin_or (a b : Int) : iMin a b = a ∨ iMin a b = b := by
  unfold iMin
  cases iLe a b with
  | true => exact Or.inl rfl
  | false => exact Or.inr rfl
/-- what a sum stands for -/
noncomputable def lnV (ρ : List Int) : Ln → Option Int
  | [] => some 0
  | (s, c) :: r => match ρ[s]?, lnV ρ r with
    | some x, some y => some (c * x + y)
    | _, _ => none
noncomputable def liV (ρ : List Int) (L : Lin) : Option Int := match lnV ρ L.1 with
  | some x => some (x + L.2)
  | none => none
theorem lnV_cons {ρ : List Int} {s : Nat} {c : Int} {r : Ln} {v : Int} (h : lnV ρ ((s, c) :: r) = some v) : ∃ x y, ρ[s]? = some x ∧ lnV ρ r = some y ∧ v = c * x + y := by
  unfold lnV at h
  split at h
  · rename_i x y h1 h2
    cases h
    exact ⟨x, y, h1, h2, rfl⟩
  · cases h
theorem lnV_mk {ρ : List Int} {s : Nat} {c : Int} {r : Ln} {x y : Int} (h1 : ρ[s]? = some x) (h2 : lnV ρ r = some y) : lnV ρ ((s, c) :: r) = some (c * x + y) := by
  unfold lnV
  rw [h1, h2]
theorem liV_mk {ρ : List Int} {l : Ln} {k x : Int} (h : lnV ρ l = some x) : liV ρ (l, k) = some (x + k) := by
  unfold liV
  rw [h]
theorem liV_inv {ρ : List Int} {L : Lin} {v : Int} (h : liV ρ L = some v) : ∃ x, lnV ρ L.1 = some x ∧ v = x + L.2 := by
  unfold liV at h
  split at h
  · rename_i x hx
    cases h
    exact ⟨x, hx, rfl⟩
  · cases h
/-- more unknowns -/
def Pre {α : Type} (ρ ρ' : List α) : Prop := ∃ t, ρ' = ρ ++ t
theorem Pre.refl {α : Type} (ρ : List α) : Pre ρ ρ := ⟨[], (List.append_nil _).symm⟩
theorem Pre.trans {α : Type} {a b c : List α} (h : Pre a b) (h2 : Pre b c) : Pre a c := by
  obtain ⟨t, rfl⟩ := h
  obtain ⟨u, rfl⟩ := h2
  exact ⟨t ++ u, List.append_assoc _ _ _⟩
theorem Pre.one {α : Type} (ρ : List α) (x : α) : Pre ρ (ρ ++ [x]) := ⟨[x], rfl⟩
theorem Pre.at {α : Type} {ρ ρ' : List α} (h : Pre ρ ρ') {i : Nat} {x : α} (hx : ρ[i]? = some x) : ρ'[i]? = some x := by
  obtain ⟨t, rfl⟩ := h
  have hl := (List.getElem?_eq_some_iff.mp hx).1
  rw [List.getElem?_append_left hl]
  exact hx
theorem Pre.nth {α : Type} {ρ ρ' : List α} (h : Pre ρ ρ') {i : Nat} {x : α} (hx : gNth ρ i = some x) : gNth ρ' i = some x := by
  rw [nth_eq] at hx ⊢
  exact h.at hx
theorem Pre.lnV {ρ ρ' : List Int} (h : Pre ρ ρ') : ∀ (l : Ln) {v : Int}, lnV ρ l = some v → lnV ρ' l = some v := by
  intro l
  induction l with
  | nil => intro v hv; exact hv
  | cons p r ih =>
    intro v hv
    obtain ⟨x, y, h1, h2, rfl⟩ := lnV_cons hv
    exact lnV_mk (h.at h1) (ih h2)
theorem Pre.liV {ρ ρ' : List Int} (h : Pre ρ ρ') {L : Lin} {v : Int} (hv : liV ρ L = some v) : liV ρ' L = some v := by
  obtain ⟨x, h1, rfl⟩ := liV_inv hv
  exact liV_mk (l := L.1) (k := L.2) (h.lnV _ h1)
noncomputable def lnIns (s : Nat) (c : Int) : Ln → Ln
  | [] => [(s, c)]
  | (t, d) :: r => cond (Nat.beq s t) (match c + d with
      | .ofNat 0 => r
      | e => (t, e) :: r) ((t, d) :: lnIns s c r)
theorem lnIns_V {ρ : List Int} {s : Nat} {c x : Int} (hx : ρ[s]? = some x) : ∀ (l : Ln) {y : Int}, lnV ρ l = some y → lnV ρ (lnIns s c l) = some (c * x + y) := by
  intro l
  induction l with
  | nil => intro y hy; exact lnV_mk hx hy
  | cons p r ih =>
    intro y hy
    obtain ⟨t, d⟩ := p
    obtain ⟨x2, y2, h1, h2, rfl⟩ := lnV_cons hy
    unfold lnIns
    cases hb : Nat.beq s t with
    | false =>
      show lnV ρ ((t, d) :: lnIns s c r) = _
      rw [lnV_mk h1 (ih h2)]
      congr 1
      omega
    | true =>
      cases Nat.eq_of_beq_eq_true hb
      cases hx.symm.trans h1
      have e1 : c * x + (d * x + y2) = (c + d) * x + y2 := by rw [Int.add_mul]; omega
      rw [e1]
      show lnV ρ (match c + d with
        | .ofNat 0 => r
        | e => (s, e) :: r) = _
      split
      · rename_i h0
        have h9 : c + d = 0 := h0
        rw [h9, h2]
        congr 1
        omega
      · exact lnV_mk hx h2
noncomputable def lnAdd : Ln → Ln → Ln
  | [], m => m
  | (s, c) :: r, m => lnIns s c (lnAdd r m)
theorem lnAdd_V {ρ : List Int} : ∀ (l m : Ln) {x y : Int}, lnV ρ l = some x → lnV ρ m = some y → lnV ρ (lnAdd l m) = some (x + y) := by
  intro l
  induction l with
  | nil => intro m x y hx hy; cases hx; show lnV ρ m = _; rw [hy]; congr 1; omega
  | cons p r ih =>
    intro m x y hx hy
    obtain ⟨x2, y2, h1, h2, rfl⟩ := lnV_cons hx
    show lnV ρ (lnIns p.1 p.2 (lnAdd r m)) = _
    rw [lnIns_V h1 _ (ih m h2 hy)]
    congr 1
    omega
noncomputable def lnMul (k : Int) : Ln → Ln
  | [] => []
  | (s, c) :: r => (s, k * c) :: lnMul k r
theorem lnMul_V {ρ : List Int} (k : Int) : ∀ (l : Ln) {x : Int}, lnV ρ l = some x → lnV ρ (lnMul k l) = some (k * x) := by
  intro l
  induction l with
  | nil => intro x hx; cases hx; show some (0 : Int) = _; rw [Int.mul_zero]
  | cons p r ih =>
    intro x hx
    obtain ⟨x2, y2, h1, h2, rfl⟩ := lnV_cons hx
    show lnV ρ ((p.1, k * p.2) :: lnMul k r) = _
    rw [lnV_mk h1 (ih h2), Int.mul_add, Int.mul_assoc]
noncomputable def liAdd (L M : Lin) : Lin := (lnAdd L.1 M.1, L.2 + M.2)
noncomputable def liMul (k : Int) (L : Lin) : Lin := match k with
  | .ofNat 0 => ([], 0)
  | k => (lnMul k L.1, k * L.2)
noncomputable def liSub (L M : Lin) : Lin := (lnAdd (lnMul (-1) M.1) L.1, L.2 - M.2)
noncomputable def liAdc (L : Lin) (k : Int) : Lin := (L.1, L.2 + k)
noncomputable def liC (k : Int) : Lin := ([], k)
noncomputable def liS (s : Nat) : Lin := ([(s, 1)], 0)
theorem liAdd_V {ρ : List Int} {L M : Lin} {x y : Int} (h1 : liV ρ L = some x) (h2 : liV ρ M = some y) : liV ρ (liAdd L M) = some (x + y) := by
  obtain ⟨a, ha, rfl⟩ := liV_inv h1
  obtain ⟨b, hb, rfl⟩ := liV_inv h2
  rw [liAdd, liV_mk (lnAdd_V _ _ ha hb)]
  congr 1
  omega
theorem liMul_V {ρ : List Int} (k : Int) {L : Lin} {x : Int} (h1 : liV ρ L = some x) : liV ρ (liMul k L) = some (k * x) := by
  obtain ⟨a, ha, rfl⟩ := liV_inv h1
  unfold liMul
  split
  · rename_i h
    show some ((0 : Int) + 0) = _
    have : (Int.ofNat 0) = 0 := rfl
    rw [this, Int.zero_mul]
    rfl
  · rw [liV_mk (lnMul_V k _ ha), Int.mul_add]
theorem liSub_V {ρ : List Int} {L M : Lin} {x y : Int} (h1 : liV ρ L = some x) (h2 : liV ρ M = some y) : liV ρ (liSub L M) = some (x - y) := by
  obtain ⟨a, ha, rfl⟩ := liV_inv h1
  obtain ⟨b, hb, rfl⟩ := liV_inv h2
  rw [liSub, liV_mk (lnAdd_V _ _ (lnMul_V (-1) _ hb) ha)]
  congr 1
  omega
theorem liAdc_V {ρ : List Int} {L : Lin} {x : Int} (k : Int) (h1 : liV ρ L = some x) : liV ρ (liAdc L k) = some (x + k) := by
  obtain ⟨a, ha, rfl⟩ := liV_inv h1
  rw [liAdc, liV_mk ha]
  congr 1
  omega
theorem liC_V {ρ : List Int} (k : Int) : liV ρ (liC k) = some k := by
  show some ((0 : Int) + k) = _
  rw [Int.zero_add]
theorem liS_V {ρ : List Int} {s : Nat} {x : Int} (h : ρ[s]? = some x) : liV ρ (liS s) = some x := by
  rw [liS, liV_mk (lnV_mk h rfl)]
  congr 1
  omega
/-- the intervals of the unknowns -/
def gOK (ρ : List Int) (g : List Iv) : Prop := ρ.length = g.length ∧ ∀ (i : Nat) (p : Iv), gNth g i = some p → ∃ x, ρ[i]? = some x ∧ p.1 ≤ x ∧ x ≤ p.2
noncomputable def lnI (g : List Iv) : Ln → Option Iv
  | [] => some (0, 0)
  | (s, c) :: r => match gNth g s, lnI g r with
    | some (lo, hi), some (a, b) => match c with
      | .ofNat n => some (.ofNat n * lo + a, .ofNat n * hi + b)
      | .negSucc n => some (.negSucc n * hi + a, .negSucc n * lo + b)
    | _, _ => none
theorem lnI_V {ρ : List Int} {g : List Iv} (hg : gOK ρ g) : ∀ (l : Ln) {p : Iv} {v : Int}, lnI g l = some p → lnV ρ l = some v → p.1 ≤ v ∧ v ≤ p.2 := by
  intro l
  induction l with
  | nil => intro p v h hv; cases h; cases hv; exact ⟨Int.le_refl _, Int.le_refl _⟩
  | cons q r ih =>
    intro p v h hv
    obtain ⟨s, c⟩ := q
    obtain ⟨x, y, h1, h2, rfl⟩ := lnV_cons hv
    unfold lnI at h
    split at h
    · rename_i lo hi a b e1 e2
      obtain ⟨x', hx', i1, i2⟩ := hg.2 s _ e1
      cases hx'.symm.trans h1
      have i1 : lo ≤ x := i1
      have i2 : x ≤ hi := i2
      obtain ⟨j1, j2⟩ := ih e2 h2
      have j1 : a ≤ y := j1
      have j2 : y ≤ b := j2
      split at h
      · rename_i n
        cases h
        have m1 : Int.ofNat n * lo ≤ Int.ofNat n * x := Int.mul_le_mul_of_nonneg_left i1 (Int.natCast_nonneg n)
        have m2 : Int.ofNat n * x ≤ Int.ofNat n * hi := Int.mul_le_mul_of_nonneg_left i2 (Int.natCast_nonneg n)
        exact ⟨Int.add_le_add m1 j1, Int.add_le_add m2 j2⟩
      · rename_i n
        cases h
        have hn : Int.negSucc n ≤ 0 := by rw [Int.negSucc_eq]; omega
        have m1 : Int.negSucc n * hi ≤ Int.negSucc n * x := Int.mul_le_mul_of_nonpos_left hn i2
        have m2 : Int.negSucc n * x ≤ Int.negSucc n * lo := Int.mul_le_mul_of_nonpos_left hn i1
        exact ⟨Int.add_le_add m1 j1, Int.add_le_add m2 j2⟩
    · cases h
noncomputable def liI (g : List Iv) (L : Lin) : Option Iv := match lnI g L.1 with
  | some (a, b) => some (a + L.2, b + L.2)
  | none => none
theorem liI_V {ρ : List Int} {g : List Iv} (hg : gOK ρ g) {L : Lin} {a b v : Int} (h : liI g L = some (a, b)) (hv : liV ρ L = some v) : a ≤ v ∧ v ≤ b := by
  obtain ⟨x, hx, rfl⟩ := liV_inv hv
  unfold liI at h
  split at h
  · rename_i a' b' e
    cases h
    obtain ⟨h1, h2⟩ := lnI_V hg _ e hx
    exact ⟨Int.add_le_add_right h1 _, Int.add_le_add_right h2 _⟩
  · cases h
/-- a form that can't be below 0, by the intervals -/
noncomputable def nn0 (g : List Iv) (L : Lin) : Bool := match liI g L with
  | some (a, _) => iLe 0 a
  | none => false
theorem nn0_V {ρ : List Int} {g : List Iv} (hg : gOK ρ g) {L : Lin} {v : Int} (h : nn0 g L = true) (hv : liV ρ L = some v) : 0 ≤ v := by
  unfold nn0 at h
  split at h
  · rename_i a b e
    have := (liI_V hg e hv).1
    have := iLe_iff.mp h
    omega
  · cases h
def fOK (ρ : List Int) (fs : List Lin) : Prop := ∀ L ∈ fs, ∃ x, liV ρ L = some x ∧ 0 ≤ x
/-- .. by the intervals and at most two facts -/
noncomputable def nn (g : List Iv) (fs : List Lin) (L : Lin) : Bool := nn0 g L || fs.any (fun F => nn0 g (liSub L F)) || fs.any (fun F => fs.any (fun E => nn0 g (liSub (liSub L F) E)))
theorem nn_V {ρ : List Int} {g : List Iv} {fs : List Lin} (hg : gOK ρ g) (hf : fOK ρ fs) {L : Lin} {v : Int} (h : nn g fs L = true) (hv : liV ρ L = some v) : 0 ≤ v := by
  unfold nn at h
  rw [Bool.or_eq_true, Bool.or_eq_true] at h
  rcases h with (h | h) | h
  · exact nn0_V hg h hv
  · obtain ⟨F, hF, h⟩ := List.any_eq_true.mp h
    obtain ⟨x, hx, h0⟩ := hf F hF
    have := nn0_V hg h (liSub_V hv hx)
    omega
  · obtain ⟨F, hF, h⟩ := List.any_eq_true.mp h
    obtain ⟨E, hE, h⟩ := List.any_eq_true.mp h
    obtain ⟨x, hx, h0⟩ := hf F hF
    obtain ⟨y, hy, h1⟩ := hf E hE
    have := nn0_V hg h (liSub_V (liSub_V hv hx) hy)
    omega
theorem Pre.fOK {ρ ρ' : List Int} (h : Pre ρ ρ') {fs : List Lin} (hf : fOK ρ fs) : fOK ρ' fs := fun L hL => by
  obtain ⟨x, hx, h0⟩ := hf L hL
  exact ⟨x, h.liV hx, h0⟩
theorem gOK.push {ρ : List Int} {g : List Iv} (hg : gOK ρ g) {x lo hi : Int} (h1 : lo ≤ x) (h2 : x ≤ hi) : gOK (ρ ++ [x]) (g ++ [(lo, hi)]) := by
  obtain ⟨hl, hg⟩ := hg
  refine ⟨by rw [List.length_append, List.length_append, hl]; rfl, fun i p hp => ?_⟩
  rw [nth_eq] at hp
  by_cases hi : i < g.length
  · rw [List.getElem?_append_left hi, ← nth_eq] at hp
    obtain ⟨y, hy, h3⟩ := hg i p hp
    exact ⟨y, (Pre.one ρ x).at hy, h3⟩
  · rw [List.getElem?_append_right (Nat.le_of_not_lt hi)] at hp
    have h0 : i - g.length = 0 := by
      have := (List.getElem?_eq_some_iff.mp hp).1
      have : i - g.length < 1 := this
      omega
    rw [h0] at hp
    cases hp
    have hi2 : i = ρ.length := by omega
    exact ⟨x, by rw [hi2, List.getElem?_append_right (Nat.le_refl _), Nat.sub_self]; rfl, h1, h2⟩
theorem push_S {ρ : List Int} {g : List Iv} (hg : gOK ρ g) (x : Int) : liV (ρ ++ [x]) (liS g.length) = some x := by
  refine liS_V ?_
  rw [← hg.1, List.getElem?_append_right (Nat.le_refl _), Nat.sub_self]
  rfl
theorem gOK.put {ρ : List Int} {g : List Iv} (hg : gOK ρ g) {s : Nat} {x : Int} {p : Iv} (hx : ρ[s]? = some x) (h1 : p.1 ≤ x) (h2 : x ≤ p.2) : gOK ρ (gPut g s p) := by
  obtain ⟨hl, hg⟩ := hg
  refine ⟨by rw [put_len]; exact hl, fun i q hq => ?_⟩
  rw [nth_put] at hq
  split at hq
  · rename_i h
    cases hq
    rw [h.1]
    exact ⟨x, hx, h1, h2⟩
  · exact hg i q hq

/-- a fact narrows the intervals of its own unknowns -/
noncomputable def narS (g : List Iv) (L : Lin) (s : Nat) (c : Int) : List Iv := match gNth g s, liI g (lnIns s (-c) L.1, L.2) with
  | some (lo, hi), some (_, b) => match c with
    | .ofNat 1 => gPut g s (iMax lo (-b), hi)
    | .negSucc 0 => gPut g s (lo, iMin hi b)
    | _ => g
  | _, _ => g
noncomputable def narr (L : Lin) : Ln → List Iv → List Iv
  | [], g => g
  | (s, c) :: r, g => narr L r (narS g L s c)
theorem narS_V {ρ : List Int} {g : List Iv} (hg : gOK ρ g) {L : Lin} {v : Int} (hv : liV ρ L = some v) (h0 : 0 ≤ v) {s : Nat} {c x : Int} (hx : ρ[s]? = some x) : gOK ρ (narS g L s c) := by
  obtain ⟨l, hl, rfl⟩ := liV_inv hv
  have hr : liV ρ (lnIns s (-c) L.1, L.2) = some (-c * x + l + L.2) := liV_mk (lnIns_V hx _ hl)
  unfold narS
  split
  · rename_i lo hi a b e1 e2
    have hb := (liI_V hg e2 hr).2
    obtain ⟨x', hx', i1, i2⟩ := hg.2 s _ e1
    cases hx'.symm.trans hx
    have i1 : lo ≤ x := i1
    have i2 : x ≤ hi := i2
    split
    · have e : -(Int.ofNat 1) * x = -x := by
        have : -(Int.ofNat 1) = -1 := rfl
        rw [this, Int.neg_one_mul]
      rw [e] at hb
      refine hg.put hx ?_ i2
      show iMax lo (-b) ≤ x
      rcases iMax_or lo (-b) with h | h <;> rw [h]
      · exact i1
      · omega
    · have e : -(Int.negSucc 0) * x = x := by
        have : -(Int.negSucc 0) = 1 := rfl
        rw [this, Int.one_mul]
      rw [e] at hb
      refine hg.put hx i1 ?_
      show x ≤ iMin hi b
      rcases iMin_or hi b with h | h <;> rw [h]
      · exact i2
      · omega
    · exact hg
  · exact hg
theorem narr_V {ρ : List Int} {L : Lin} {v : Int} (hv : liV ρ L = some v) (h0 : 0 ≤ v) : ∀ (l : Ln) {g : List Iv} {y : Int}, gOK ρ g → lnV ρ l = some y → gOK ρ (narr L l g) := by
  intro l
  induction l with
  | nil => intro g y hg hy; exact hg
  | cons p r ih =>
    intro g y hg hy
    obtain ⟨x2, y2, h1, h2, rfl⟩ := lnV_cons hy
    exact ih (narS_V hg hv h0 h1) h2
/-! data laid flat -/
noncomputable def fI {β : Type} (i : Int) (k : Int → β) : β := Int.casesOn i (fun n => gPc n (fun n => k (.ofNat n))) (fun n => gPc n (fun n => k (.negSucc n)))
theorem fI_eq {β : Type} (i : Int) (k : Int → β) : fI i k = k i := by
  cases i with
  | ofNat n => exact gPc_eq n (fun n => k (.ofNat n))
  | negSucc n => exact gPc_eq n (fun n => k (.negSucc n))
noncomputable def fLn {β : Type} (l : Ln) : (Ln → β) → β := List.rec (motive := fun _ => (Ln → β) → β) (fun k => k []) (fun p _ ih k => gPc p.1 (fun s => fI p.2 (fun c => ih (fun r => k ((s, c) :: r))))) l
theorem fLn_eq {β : Type} (l : Ln) : ∀ k : Ln → β, fLn l k = k l := by
  induction l with
  | nil => intro k; rfl
  | cons p r ih =>
    intro k
    show gPc p.1 (fun s => fI p.2 (fun c => fLn r (fun r => k ((s, c) :: r)))) = _
    rw [gPc_eq, fI_eq, ih]
noncomputable def fLin {β : Type} (L : Lin) (k : Lin → β) : β := fLn L.1 (fun l => fI L.2 (fun c => k (l, c)))
theorem fLin_eq {β : Type} (L : Lin) (k : Lin → β) : fLin L k = k L := by
  unfold fLin
  rw [fLn_eq, fI_eq]
noncomputable def fG {β : Type} (l : List Iv) : (List Iv → β) → β := List.rec (motive := fun _ => (List Iv → β) → β) (fun k => k []) (fun p _ ih k => fI p.1 (fun a => fI p.2 (fun b => ih (fun r => k ((a, b) :: r))))) l
theorem fG_eq {β : Type} (l : List Iv) : ∀ k : List Iv → β, fG l k = k l := by
  induction l with
  | nil => intro k; rfl
  | cons p r ih =>
    intro k
    show fI p.1 (fun a => fI p.2 (fun b => fG r (fun r => k ((a, b) :: r)))) = _
    rw [fI_eq, fI_eq, ih]
/-- a fact more: on; not possible: nothing is left to look at -/
noncomputable def addF (g : List Iv) (fs : List Lin) (L : Lin) (k : List Iv → List Lin → Bool) : Bool := match liI g L with
  | none => false
  | some (a, b) => cond (iLe 0 b) (cond (iLe 0 a) (k g fs) (fG (narr L L.1 g) (fun g' => match L.1 with
    | _ :: _ :: _ => fLin L (fun L => k g' (L :: fs))
    | _ => k g' fs))) true
theorem addF_V {ρ : List Int} {g : List Iv} {fs : List Lin} (hg : gOK ρ g) (hf : fOK ρ fs) {L : Lin} {v : Int} (hv : liV ρ L = some v) (h0 : 0 ≤ v) {k : List Iv → List Lin → Bool} (h : addF g fs L k = true) : ∃ g' fs', gOK ρ g' ∧ fOK ρ fs' ∧ k g' fs' = true := by
  unfold addF at h
  split at h
  · cases h
  · rename_i a b e
    have hb := (liI_V hg e hv).2
    rw [iLe_iff.mpr (Int.le_trans h0 hb)] at h
    have h : cond (iLe 0 a) (k g fs) _ = true := h
    cases ha : iLe 0 a with
    | true => rw [ha] at h; exact ⟨g, fs, hg, hf, h⟩
    | false =>
      rw [ha] at h
      have h : fG _ _ = true := h
      rw [fG_eq] at h
      obtain ⟨l, hl, -⟩ := liV_inv hv
      have hg' := narr_V hv h0 L.1 hg hl
      split at h
      · rw [fLin_eq] at h
        refine ⟨_, _, hg', fun F hF => ?_, h⟩
        rcases List.mem_cons.mp hF with rfl | hF
        · exact ⟨v, hv, h0⟩
        · exact hf F hF
      · exact ⟨_, _, hg', hf, h⟩
noncomputable def addFs (g : List Iv) (fs : List Lin) (Ls : List Lin) (k : List Iv → List Lin → Bool) : Bool := match Ls with
  | [] => k g fs
  | L :: r => addF g fs L (fun g fs => addFs g fs r k)
theorem addFs_V {ρ : List Int} : ∀ (Ls : List Lin) {g : List Iv} {fs : List Lin}, gOK ρ g → fOK ρ fs → fOK ρ Ls → ∀ {k : List Iv → List Lin → Bool}, addFs g fs Ls k = true → ∃ g' fs', gOK ρ g' ∧ fOK ρ fs' ∧ k g' fs' = true := by
  intro Ls
  induction Ls with
  | nil => intro g fs hg hf hL k h; exact ⟨g, fs, hg, hf, h⟩
  | cons L r ih =>
    intro g fs hg hf hL k h
    obtain ⟨v, hv, h0⟩ := hL L List.mem_cons_self
    obtain ⟨g', fs', hg', hf', h'⟩ := addF_V hg hf hv h0 h
    exact ih hg' hf' (fun F hF => hL F (List.mem_cons_of_mem _ hF)) h'
