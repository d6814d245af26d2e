/-! COSTS OVER CELLS, in themselves: steps that make them less, what stands when no step does -/
abbrev EDG : Type := Nat → Nat → Int → Prop
abbrev ROW : Type := Nat → Int
def FxE (E : EDG) (n : Nat) (u : ROW) : Prop := ∀ c o w, c < n → o < n → E c o w → u c ≤ u o + w
def leE (n : Nat) (f g : ROW) : Prop := ∀ c, c < n → f c ≤ g c
/-- at most v, and at least whatever stands and is at most v -/
def LwE (E : EDG) (n : Nat) (v f : ROW) : Prop := leE n f v ∧ ∀ u, FxE E n u → leE n u v → leE n u f
def GfE (E : EDG) (n : Nat) (v f : ROW) : Prop := LwE E n v f ∧ FxE E n f
/-- one step: the cost at c -/
def StE (E : EDG) (n c : Nat) (f g : ROW) : Prop := (∀ x, x < n → x ≠ c → g x = f x) ∧ g c ≤ f c ∧ (∀ o w, o < n → E c o w → g c ≤ f o + w) ∧ (g c = f c ∨ ∃ o w, o < n ∧ E c o w ∧ g c = f o + w)
/-- steps, at the cells of D at least; b: whether a cost became less -/
def PsE (E : EDG) (n : Nat) (D : Nat → Prop) (f g : ROW) (b : Bool) : Prop := leE n g f ∧ (∀ u, FxE E n u → leE n u f → leE n u g) ∧ (b = false → ∀ c, c < n → g c = f c) ∧ (b = true → ∃ c, c < n ∧ g c < f c) ∧ (∀ c, D c → c < n → ∀ o w, o < n → E c o w → g c ≤ f o + w) ∧ ∀ Q : Int → Prop, (∀ c o w x, c < n → o < n → E c o w → Q x → Q (x + w)) → (∀ c, c < n → Q (f c)) → ∀ c, c < n → Q (g c)
noncomputable def ctN (p : Nat → Bool) : Nat → Nat
  | 0 => 0
  | n + 1 => ctN p n + (if p n = true then 1 else 0)
section PCOS
variable {E : EDG} {n c : Nat} {D D' : Nat → Prop} {u v f g h : ROW} {b : Bool} {p q : Nat → Bool}
theorem leE.refl : leE n f f := fun _ _ => Int.le_refl _
theorem leE.trans (h1 : leE n f g) (h2 : leE n g h) : leE n f h := fun c hc => Int.le_trans (h1 c hc) (h2 c hc)
theorem GfE.uniq (h : GfE E n v f) (k : GfE E n v g) : ∀ c, c < n → f c = g c := fun c hc => Int.le_antisymm (k.1.2 f h.2 h.1.1 c hc) (h.1.2 g k.2 k.1.1 c hc)
theorem LwE.refl : LwE E n v v := ⟨leE.refl, fun _ _ h => h⟩
theorem LwE.ps (h : LwE E n v f) (k : PsE E n D f g b) : LwE E n v g := ⟨k.1.trans h.1, fun u h1 h2 => k.2.1 u h1 (h.2 u h1 h2)⟩
theorem LwE.st (h : LwE E n v f) (hc : c < n) (k : StE E n c f g) : LwE E n v g := by
  obtain ⟨k1, k2, _, k4⟩ := k
  refine ⟨fun x hx => ?_, fun u h1 h2 x hx => ?_⟩
  · by_cases q : x = c
    · rw [q]
      exact Int.le_trans k2 (h.1 c hc)
    · rw [k1 x hx q]
      exact h.1 x hx
  · have hu := h.2 u h1 h2
    by_cases q : x = c
    · rw [q]
      rcases k4 with k4 | ⟨o, w, ho, he, k4⟩
      · rw [k4]
        exact hu c hc
      · rw [k4]
        have := h1 c o w hc ho he
        have := hu o ho
        omega
    · rw [k1 x hx q]
      exact hu x hx
theorem PsE.refl (hD : ∀ c, ¬ D c) : PsE E n D f f false := ⟨leE.refl, fun _ _ h => h, fun _ _ _ => rfl, fun h => (by cases h), fun c h => absurd h (hD c), fun _ _ h => h⟩
theorem PsE.more (h : PsE E n D f g b) (hD : ∀ c, c < n → D' c → D c) : PsE E n D' f g b := ⟨h.1, h.2.1, h.2.2.1, h.2.2.2.1, fun c hc hn => h.2.2.2.2.1 c (hD c hn hc) hn, h.2.2.2.2.2⟩
theorem PsE.step (k : PsE E n D f g b) (hc : c < n) (s : StE E n c g h) : PsE E n (fun x => x = c ∨ D x) f h (b || decide (h c < g c)) := by
  obtain ⟨k1, k2, k3, k4, k5, k6⟩ := k
  obtain ⟨s1, s2, s3, s4⟩ := s
  have hg : leE n h g := fun x hx => by
    by_cases q : x = c
    · rw [q]
      exact s2
    · rw [s1 x hx q]
      exact Int.le_refl _
  refine ⟨hg.trans k1, fun u h1 h2 x hx => ?_, fun hb x hx => ?_, fun hb => ?_, fun x hD hx o w ho he => ?_, fun Q q1 q2 x hx => ?_⟩
  · have hu := k2 u h1 h2
    by_cases q : x = c
    · rw [q]
      rcases s4 with s4 | ⟨o, w, ho, he, s4⟩
      · rw [s4]
        exact hu c hc
      · rw [s4]
        have := h1 c o w hc ho he
        have := hu o ho
        omega
    · rw [s1 x hx q]
      exact hu x hx
  · obtain ⟨b1, b2⟩ := Bool.or_eq_false_iff.mp hb
    have b2 := of_decide_eq_false b2
    rw [← k3 b1 x hx]
    by_cases q : x = c
    · rw [q]
      omega
    · exact s1 x hx q
  · rcases Bool.or_eq_true_iff.mp hb with b1 | b1
    · obtain ⟨x, hx, h1⟩ := k4 b1
      have := hg x hx
      exact ⟨x, hx, by omega⟩
    · have b2 := of_decide_eq_true b1
      have := k1 c hc
      exact ⟨c, hc, by omega⟩
  · rcases hD with rfl | hD
    · have := s3 o w ho he
      have := k1 o ho
      omega
    · have := k5 x hD hx o w ho he
      have := hg x hx
      omega
  · have hq := k6 Q q1 q2
    by_cases q : x = c
    · rw [q]
      rcases s4 with s4 | ⟨o, w, ho, he, s4⟩
      · rw [s4]
        exact hq c hc
      · rw [s4]
        exact q1 c o w _ hc ho he (hq o ho)
    · rw [s1 x hx q]
      exact hq x hx
/-- no cost became less: what is there stands -/
theorem PsE.fix (k : PsE E n D f g false) (hD : ∀ c, c < n → D c) : FxE E n g := fun c o w hc ho he => by
  have h1 := k.2.2.1 rfl
  have h2 := k.2.2.2.2.1 c (hD c hc) hc o w ho he
  rw [h1 o ho]
  exact h2
/-! counted -/
theorem ctN_le : ∀ n, ctN p n ≤ n := by
  intro n
  induction n with
  | zero => exact Nat.le_refl _
  | succ n ih =>
    unfold ctN
    split <;> omega
theorem ctN_mono : ∀ n, (∀ i, i < n → p i = true → q i = true) → ctN p n ≤ ctN q n := by
  intro n
  induction n with
  | zero => intro _; exact Nat.le_refl _
  | succ n ih =>
    intro h
    have h1 := ih (fun i hi => h i (by omega))
    have h2 := h n (by omega)
    unfold ctN
    by_cases hp : p n = true
    · rw [if_pos hp, if_pos (h2 hp)]
      omega
    · rw [if_neg hp]
      omega
theorem ctN_lt : ∀ n, (∀ i, i < n → p i = true → q i = true) → (∃ i, i < n ∧ q i = true ∧ ¬ p i = true) → ctN p n + 1 ≤ ctN q n := by
  intro n
  induction n with
  | zero => intro _ ⟨i, hi, _⟩; exact absurd hi (Nat.not_lt_zero i)
  | succ n ih =>
    intro h ⟨i, hi, h1, h2⟩
    have h3 := h n (by omega)
    have hm : ctN p n ≤ ctN q n := ctN_mono n (fun i hi => h i (by omega))
    unfold ctN
    by_cases e : i = n
    · subst e
      rw [if_neg h2, if_pos h1]
      omega
    · have h4 := ih (fun i hi => h i (by omega)) ⟨i, by omega, h1, h2⟩
      by_cases hp : p n = true
      · rw [if_pos hp, if_pos (h3 hp)]
        omega
      · rw [if_neg hp]
        omega
/-- the least of those that are not told by p -/
theorem arg_min (p : Nat → Bool) (u : ROW) : ∀ n, (∃ c, c < n ∧ ¬ p c = true) → ∃ c, c < n ∧ ¬ p c = true ∧ ∀ x, x < n → ¬ p x = true → u c ≤ u x := by
  intro n
  induction n with
  | zero => intro ⟨i, hi, _⟩; exact absurd hi (Nat.not_lt_zero i)
  | succ n ih =>
    intro ⟨i, hi, h1⟩
    by_cases hx : ∃ c, c < n ∧ ¬ p c = true
    · obtain ⟨c, c1, c2, c3⟩ := ih hx
      by_cases hn : ¬ p n = true ∧ u n < u c
      · refine ⟨n, Nat.lt_succ_self n, hn.1, fun x hx hp => ?_⟩
        by_cases e : x = n
        · rw [e]
          exact Int.le_refl _
        · have := c3 x (by omega) hp
          have := hn.2
          omega
      · refine ⟨c, by omega, c2, fun x hx hp => ?_⟩
        by_cases e : x = n
        · subst e
          have : ¬ u x < u c := fun q => hn ⟨hp, q⟩
          omega
        · exact c3 x (by omega) hp
    · have e : i = n := by
        by_cases e : i = n
        · exact e
        · exact absurd ⟨i, by omega, h1⟩ hx
      subst e
      refine ⟨i, hi, h1, fun x hx2 hp => ?_⟩
      by_cases e : x = i
      · rw [e]
        exact Int.le_refl _
      · exact absurd ⟨x, by omega, hp⟩ hx
/-- what stands and could not be more comes from beside -/
theorem GfE.sup (h : GfE E n v u) (hw : ∀ c o w, c < n → o < n → E c o w → 0 ≤ w) (hc : c < n) (hl : u c < v c) : ∃ o w, o < n ∧ E c o w ∧ u o + w ≤ u c := by
  by_cases hx : ∃ o w, o < n ∧ E c o w ∧ u o + w ≤ u c
  · exact hx
  · have hF : FxE E n (fun x => if x = c then u c + 1 else u x) := fun x o w hx2 ho he => by
      have h0 := h.2 x o w hx2 ho he
      have w0 := hw x o w hx2 ho he
      show (if x = c then u c + 1 else u x) ≤ (if o = c then u c + 1 else u o) + w
      by_cases q : x = c
      · rw [if_pos q]
        subst q
        by_cases q2 : o = x
        · rw [if_pos q2]
          omega
        · rw [if_neg q2]
          have : ¬ u o + w ≤ u x := fun r => hx ⟨o, w, ho, he, r⟩
          omega
      · rw [if_neg q]
        by_cases q2 : o = c
        · rw [if_pos q2]
          rw [q2] at h0
          omega
        · rw [if_neg q2]
          exact h0
    have h1 := h.1.2 _ hF (fun x hx2 => by
      show (if x = c then u c + 1 else u x) ≤ v x
      by_cases q : x = c
      · rw [if_pos q, q]
        omega
      · rw [if_neg q]
        exact h.1.1 x hx2) c hc
    have h1 : (if c = c then u c + 1 else u c) ≤ u c := h1
    rw [if_pos rfl] at h1
    omega
/-- with costs of 1 at least: one more is as it will stand -/
theorem set_more (hu : GfE E n v u) (hw : ∀ c o w, c < n → o < n → E c o w → 1 ≤ w) (hf : LwE E n v f) (k : PsE E n D f g b) (hD : ∀ c, c < n → D c) : (∀ c, c < n → g c = u c) ∨ ctN (fun c => decide (f c = u c)) n + 1 ≤ ctN (fun c => decide (g c = u c)) n := by
  have hg := hf.ps k
  have keep : ∀ c, c < n → f c = u c → g c = u c := fun c hc e => Int.le_antisymm (by have := k.1 c hc; omega) (hg.2 u hu.2 hu.1.1 c hc)
  by_cases hx : ∃ c, c < n ∧ ¬ decide (f c = u c) = true
  · refine Or.inr (ctN_lt n (fun i hi h => decide_eq_true (keep i hi (of_decide_eq_true h))) ?_)
    obtain ⟨c, c1, c2, c3⟩ := arg_min (fun c => decide (f c = u c)) u n hx
    have c2' : ¬ f c = u c := fun q => c2 (decide_eq_true q)
    have l1 := hf.2 u hu.2 hu.1.1 c c1
    have l2 := hf.1 c c1
    obtain ⟨o, w, o1, o2, o3⟩ := hu.sup (fun c o w hc ho he => by have := hw c o w hc ho he; omega) c1 (by omega)
    have w1 := hw c o w c1 o1 o2
    have eo : f o = u o := by
      by_cases e : f o = u o
      · exact e
      · have := c3 o o1 (fun r => e (of_decide_eq_true r))
        omega
    have l3 := k.2.2.2.2.1 c (hD c c1) c1 o w o1 o2
    have l4 := hg.2 u hu.2 hu.1.1 c c1
    exact ⟨c, c1, decide_eq_true (by omega), c2⟩
  · refine Or.inl (fun c hc => keep c hc ?_)
    by_cases e : f c = u c
    · exact e
    · exact absurd ⟨c, hc, fun r => e (of_decide_eq_true r)⟩ hx
/-- with two costs alone: one more is the less of them -/
theorem two_more {F : Int} (hF : 0 < F) (h2 : ∀ c, c < n → f c = 0 ∨ f c = F) (hQ : ∀ c o w, c < n → o < n → E c o w → w = 0) (k : PsE E n D f g true) : (∀ c, c < n → g c = 0 ∨ g c = F) ∧ ctN (fun c => decide (f c = 0)) n + 1 ≤ ctN (fun c => decide (g c = 0)) n := by
  have g2 : ∀ c, c < n → g c = 0 ∨ g c = F := k.2.2.2.2.2 (fun x => x = 0 ∨ x = F) (fun c o w x hc ho he hx => by rw [hQ c o w hc ho he, Int.add_zero]; exact hx) h2
  refine ⟨g2, ctN_lt n (fun i hi h => ?_) ?_⟩
  · have h1 := of_decide_eq_true h
    have h3 := k.1 i hi
    have h4 := g2 i hi
    exact decide_eq_true (by omega)
  · obtain ⟨c, c1, c2⟩ := k.2.2.2.1 rfl
    have h4 := g2 c c1
    have h5 := h2 c c1
    exact ⟨c, c1, decide_eq_true (by omega), fun r => by have := of_decide_eq_true r; omega⟩
end PCOS
