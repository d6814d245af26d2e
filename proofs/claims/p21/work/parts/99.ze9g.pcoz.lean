/-! COSTS OVER CELLS: that they are; of more ways, of another most; how great they can be -/
noncomputable def smR (f : ROW) : Nat → Int
  | 0 => 0
  | n + 1 => smR f n + f n
noncomputable def miR (F : Int) (f : ROW) : ROW := fun c => if f c ≤ F then f c else F
section PCOZ
variable {E E2 : EDG} {n c o : Nat} {D : Nat → Prop} {u v f g h u2 v2 : ROW} {b : Bool} {w F R B W : Int}
theorem smR_le : ∀ n, leE n g f → smR g n ≤ smR f n := by
  intro n
  induction n with
  | zero => intro _; exact Int.le_refl _
  | succ n ih =>
    intro h
    have h1 := ih (fun c hc => h c (by omega))
    have h2 := h n (by omega)
    show smR g n + g n ≤ smR f n + f n
    omega
theorem smR_lt : ∀ n, leE n g f → (∃ c, c < n ∧ g c < f c) → smR g n < smR f n := by
  intro n
  induction n with
  | zero => intro _ ⟨c, hc, _⟩; exact absurd hc (Nat.not_lt_zero c)
  | succ n ih =>
    intro h ⟨c, hc, h3⟩
    have h1 : leE n g f := fun c hc => h c (by omega)
    have h2 := h n (by omega)
    have h4 := smR_le n h1
    show smR g n + g n < smR f n + f n
    by_cases e : c = n
    · subst e
      omega
    · have := ih h1 ⟨c, by omega, h3⟩
      omega
theorem smR_ge : ∀ n, (∀ c, c < n → 0 ≤ f c) → 0 ≤ smR f n := by
  intro n
  induction n with
  | zero => intro _; exact Int.le_refl _
  | succ n ih =>
    intro h
    have h1 := ih (fun c hc => h c (by omega))
    have h2 := h n (by omega)
    show 0 ≤ smR f n + f n
    omega
/-- there is one -/
theorem GfE.ex (hw : ∀ c o w, c < n → o < n → E c o w → 0 ≤ w) : ∀ (q : Nat) (f : ROW), smR f n ≤ (q : Int) → (∀ c, c < n → 0 ≤ f c) → LwE E n v f → ∃ u, GfE E n v u ∧ ∀ c, c < n → 0 ≤ u c := by
  intro q
  induction q with
  | zero =>
    intro f hq h0 hL
    by_cases hx : ∃ c o w, c < n ∧ o < n ∧ E c o w ∧ f o + w < f c
    · obtain ⟨c, o, w, c1, o1, he, h1⟩ := hx
      have a1 : leE n (fun x => if x = c then f o + w else f x) f := fun x _ => by
        show (if x = c then f o + w else f x) ≤ f x
        by_cases z : x = c
        · rw [if_pos z, z]
          omega
        · rw [if_neg z]
          exact Int.le_refl _
      have a2 : smR (fun x => if x = c then f o + w else f x) n < smR f n := smR_lt n a1 ⟨c, c1, by show (if c = c then f o + w else f c) < f c; rw [if_pos rfl]; exact h1⟩
      have a3 : 0 ≤ smR (fun x => if x = c then f o + w else f x) n := smR_ge n (fun x hx => by
        show 0 ≤ (if x = c then f o + w else f x)
        have := h0 o o1
        have := hw c o w c1 o1 he
        have := h0 x hx
        split <;> omega)
      omega
    · refine ⟨f, ⟨hL, fun c o w hc ho he => ?_⟩, h0⟩
      have : ¬ f o + w < f c := fun z => hx ⟨c, o, w, hc, ho, he, z⟩
      omega
  | succ q ih =>
    intro f hq h0 hL
    by_cases hx : ∃ c o w, c < n ∧ o < n ∧ E c o w ∧ f o + w < f c
    · obtain ⟨c, o, w, c1, o1, he, h1⟩ := hx
      have a1 : leE n (fun x => if x = c then f o + w else f x) f := fun x _ => by
        show (if x = c then f o + w else f x) ≤ f x
        by_cases z : x = c
        · rw [if_pos z, z]
          omega
        · rw [if_neg z]
          exact Int.le_refl _
      have a2 : smR (fun x => if x = c then f o + w else f x) n < smR f n := smR_lt n a1 ⟨c, c1, by show (if c = c then f o + w else f c) < f c; rw [if_pos rfl]; exact h1⟩
      refine ih _ (by omega) (fun x hx => ?_) ⟨a1.trans hL.1, fun u' h2 h3 x hx => ?_⟩
      · show 0 ≤ (if x = c then f o + w else f x)
        have := h0 o o1
        have := hw c o w c1 o1 he
        have := h0 x hx
        split <;> omega
      · show u' x ≤ (if x = c then f o + w else f x)
        have h4 := hL.2 u' h2 h3
        by_cases z : x = c
        · rw [if_pos z, z]
          have := h2 c o w c1 o1 he
          have := h4 o o1
          omega
        · rw [if_neg z]
          exact h4 x hx
    · refine ⟨f, ⟨hL, fun c o w hc ho he => ?_⟩, h0⟩
      have : ¬ f o + w < f c := fun z => hx ⟨c, o, w, hc, ho, he, z⟩
      omega
theorem GfE.has (hw : ∀ c o w, c < n → o < n → E c o w → 0 ≤ w) (h0 : ∀ c, c < n → 0 ≤ v c) : ∃ u, GfE E n v u ∧ ∀ c, c < n → 0 ≤ u c := GfE.ex hw (smR v n).toNat v (by have := smR_ge n h0; omega) h0 LwE.refl
/-- with another most -/
theorem GfE.cap (h : GfE E n v u) (hw : ∀ c o w, c < n → o < n → E c o w → 0 ≤ w) : GfE E n (miR F v) (miR F u) := by
  refine ⟨⟨fun c hc => ?_, fun u' h1 h2 c hc => ?_⟩, fun c o w hc ho he => ?_⟩
  · have := h.1.1 c hc
    show (if u c ≤ F then u c else F) ≤ (if v c ≤ F then v c else F)
    split <;> split <;> omega
  · have a := h.1.2 u' h1 (fun x hx => by
      have : u' x ≤ (if v x ≤ F then v x else F) := h2 x hx
      split at this <;> omega) c hc
    have b : u' c ≤ (if v c ≤ F then v c else F) := h2 c hc
    show u' c ≤ (if u c ≤ F then u c else F)
    split at b <;> split <;> omega
  · have a := h.2 c o w hc ho he
    have b := hw c o w hc ho he
    show (if u c ≤ F then u c else F) ≤ (if u o ≤ F then u o else F) + w
    split <;> split <;> omega
/-- with more ways, no more -/
theorem GfE.mono (h : GfE E n v u) (k : GfE E2 n v u2) (hE : ∀ c o w, c < n → o < n → E c o w → E2 c o w) : leE n u2 u := h.1.2 u2 (fun c o w hc ho he => k.2 c o w hc ho (hE c o w hc ho he)) k.1.1
theorem GfE.alike (h : GfE E n v u) (hE : ∀ c o w, c < n → o < n → (E c o w ↔ E2 c o w)) : GfE E2 n v u := ⟨⟨h.1.1, fun u' h1 h2 => h.1.2 u' (fun c o w hc ho he => h1 c o w hc ho ((hE c o w hc ho).mp he)) h2⟩, fun c o w hc ho he => h.2 c o w hc ho ((hE c o w hc ho).mpr he)⟩
/-- what can be told at all is not great -/
theorem lev_l (hW : 0 ≤ W) (h : GfE E n v u) (hw : ∀ c o w, c < n → o < n → E c o w → 1 ≤ w ∧ w ≤ W) (hv : ∀ c, c < n → v c ≤ B ∨ R ≤ v c) : ∀ k : Nat, (∀ c, c < n → u c ≤ B + W * (k : Int) ∨ R ≤ u c) ∨ k ≤ ctN (fun c => decide (u c ≤ B + W * (k : Int))) n := by
  intro k
  induction k with
  | zero => exact Or.inr (Nat.zero_le _)
  | succ k ih =>
    have em : W * ((k + 1 : Nat) : Int) = W * (k : Int) + W := by
      rw [Int.natCast_add, Int.mul_add]
      show W * (k : Int) + W * 1 = _
      rw [Int.mul_one]
    have wk : 0 ≤ W * (k : Int) := Int.mul_nonneg hW (by omega)
    by_cases hx : ∃ c, c < n ∧ ¬ (decide (u c ≤ B + W * (k : Int)) || decide (R ≤ u c)) = true
    · obtain ⟨c, c1, c2, c3⟩ := arg_min (fun c => decide (u c ≤ B + W * (k : Int)) || decide (R ≤ u c)) u n hx
      have c2 : ¬ (decide (u c ≤ B + W * (k : Int)) || decide (R ≤ u c)) = true := c2
      rw [Bool.or_eq_true, decide_eq_true_eq, decide_eq_true_eq] at c2
      have p1 : ¬ u c ≤ B + W * (k : Int) := fun z => c2 (Or.inl z)
      have p2 : ¬ R ≤ u c := fun z => c2 (Or.inr z)
      rcases ih with ih | ih
      · rcases ih c c1 with z | z
        · exact absurd z p1
        · exact absurd z p2
      have l1 := h.1.1 c c1
      have hv1 := hv c c1
      obtain ⟨o, w, o1, o2, o3⟩ := h.sup (fun c o w hc ho he => by have := hw c o w hc ho he; omega) c1 (by omega)
      obtain ⟨w1, w2⟩ := hw c o w c1 o1 o2
      have f1 := h.2 c o w c1 o1 o2
      have uo : u o ≤ B + W * (k : Int) := by
        by_cases z : u o ≤ B + W * (k : Int)
        · exact z
        · have z2 : ¬ R ≤ u o := by omega
          have := c3 o o1 (by
            show ¬ (decide (u o ≤ B + W * (k : Int)) || decide (R ≤ u o)) = true
            rw [Bool.or_eq_true, decide_eq_true_eq, decide_eq_true_eq]
            rintro (y | y)
            · exact z y
            · exact z2 y)
          omega
      refine Or.inr (Nat.le_trans (Nat.succ_le_succ ih) (ctN_lt n (fun i hi q => ?_) ⟨c, c1, decide_eq_true (by rw [em]; omega), fun q => p1 (of_decide_eq_true q)⟩))
      have := of_decide_eq_true q
      exact decide_eq_true (by rw [em]; omega)
    · refine Or.inl (fun x hx2 => ?_)
      by_cases z : (decide (u x ≤ B + W * (k : Int)) || decide (R ≤ u x)) = true
      · rw [Bool.or_eq_true, decide_eq_true_eq, decide_eq_true_eq] at z
        rcases z with z | z
        · exact Or.inl (by rw [em]; omega)
        · exact Or.inr z
      · exact absurd ⟨x, hx2, z⟩ hx
theorem lev_ok (hW : 0 ≤ W) (h : GfE E n v u) (hw : ∀ c o w, c < n → o < n → E c o w → 1 ≤ w ∧ w ≤ W) (hv : ∀ c, c < n → v c ≤ B ∨ R ≤ v c) (hc : c < n) : u c ≤ B + W * ((n + 1 : Nat) : Int) ∨ R ≤ u c := by
  rcases lev_l hW h hw hv (n + 1) with q | q
  · exact q c hc
  · have := ctN_le (p := fun c => decide (u c ≤ B + W * ((n + 1 : Nat) : Int))) n
    omega
end PCOZ
