/-! WHAT JOINS DOORS: sets of DOORS as numbers, costs of what joins them -/
def Spl (s p q : Nat) : Prop := 0 < p ∧ 0 < q ∧ p &&& q = 0 ∧ p + q = s
/-- the costs of s before they are spread -/
def StC (N m : Nat) (F : Int) (pr : ROW) (t : Nat → Nat) (C : Nat → ROW) (s : Nat) (st : ROW) : Prop := ∀ c, c < N → st c ≤ F ∧ (∀ i, i < m → s = 2 ^ i → c = t i → st c ≤ pr c) ∧ (∀ p q, Spl s p q → st c ≤ C p c + C q c - pr c) ∧ (st c = F ∨ (∃ i, i < m ∧ s = 2 ^ i ∧ c = t i ∧ st c = pr c) ∨ ∃ p q, Spl s p q ∧ st c = C p c + C q c - pr c)
def SyC (E : EDG) (N m : Nat) (F : Int) (pr : ROW) (t : Nat → Nat) (C : Nat → ROW) (B : Nat) : Prop := ∀ s, 0 < s → s < B → ∃ st, StC N m F pr t C s st ∧ GfE E N st (C s)
noncomputable def C0q (pr : ROW) (C : Nat → ROW) (s : Nat) : ROW := if s = 0 then pr else C s
noncomputable def btA : Bool := (List.range 6).all (fun k => (List.range (2 ^ (k + 1))).all (fun p => (List.range (2 ^ (k + 1))).all (fun q => !(Nat.beq (p &&& q) 0) || (bif Nat.blt p (2 ^ k) then (bif Nat.blt q (2 ^ k) then Nat.blt (p + q) (2 ^ k) else Nat.beq (p &&& (q - 2 ^ k)) 0) else (bif Nat.blt q (2 ^ k) then Nat.beq ((p - 2 ^ k) &&& q) 0 else false)))))
noncomputable def btB : Bool := (List.range 32).all (fun p => (List.range 32).all (fun q => !(Nat.beq (p &&& q) 0) || (List.range 32).all (fun x => !(Nat.beq ((p + q) &&& x) 0) || (Nat.beq (p &&& (q + x)) 0 && Nat.beq (q &&& x) 0))))
noncomputable def btC : Bool := (List.range 64).all (fun s => (List.range (s + 1)).all (fun a => !(Nat.beq (a &&& s) a) || ((Nat.beq (((a - 1) &&& s) &&& s) ((a - 1) &&& s) && (Nat.beq a 0 || Nat.blt ((a - 1) &&& s) a)) && ((Nat.beq (s ^^^ a) (s - a) && Nat.beq (a &&& (s - a)) 0) && (List.range a).all (fun p => !(Nat.beq (p &&& s) p) || Nat.ble p ((a - 1) &&& s))))))
noncomputable def btD : Bool := (List.range 64).all (fun s => (List.range (s + 1)).all (fun p => !(Nat.beq (p &&& (s - p)) 0) || Nat.beq (p &&& s) p))
set_option maxRecDepth 100000 in
theorem bt_all : btA = true ∧ btB = true ∧ btC = true ∧ btD = true := by refine ⟨?_, ?_, ?_, ?_⟩ <;> decide +kernel
section LPUR
variable {E E2 : EDG} {N m k s p q a b c o T X B : Nat} {F F1 F2 : Int} {pr : ROW} {t : Nat → Nat} {C C1 C2 : Nat → ROW} {st st2 u v : ROW} {ok : Nat → Bool}
theorem or_f {x y : Bool} (h : (!x || y) = true) (hx : x = true) : y = true := by
  rw [hx] at h
  exact h
theorem btA_ok (hk : k < 6) (hp : p < 2 ^ (k + 1)) (hq : q < 2 ^ (k + 1)) (h : p &&& q = 0) : (bif Nat.blt p (2 ^ k) then (bif Nat.blt q (2 ^ k) then Nat.blt (p + q) (2 ^ k) else Nat.beq (p &&& (q - 2 ^ k)) 0) else (bif Nat.blt q (2 ^ k) then Nat.beq ((p - 2 ^ k) &&& q) 0 else false)) = true := by
  have h1 := List.all_eq_true.mp bt_all.1 k (List.mem_range.mpr hk)
  have h2 := List.all_eq_true.mp h1 p (List.mem_range.mpr hp)
  have h3 := List.all_eq_true.mp h2 q (List.mem_range.mpr hq)
  exact or_f h3 (by rw [h]; rfl)
theorem nblt_t (h : p < q) : Nat.blt p q = true := Nat.ble_eq_true_of_le h
theorem nblt_f (h : ¬ p < q) : Nat.blt p q = false := by
  cases e : Nat.blt p q with
  | false => rfl
  | true => exact absurd (Nat.le_of_ble_eq_true e) h
theorem pow_lt2 : 2 ^ k < 2 ^ (k + 1) := by
  have := Nat.two_pow_pos k
  rw [Nat.pow_succ]
  omega
/-- of two parts of a set with k, one has k -/
theorem spl_top (hk : k < 6) (hT : T < 2 ^ k) (h : Spl (T + 2 ^ k) p q) : (∃ T1, p = T1 + 2 ^ k ∧ T1 < 2 ^ k ∧ q < 2 ^ k ∧ T1 &&& q = 0 ∧ T1 + q = T) ∨ (∃ T1, q = T1 + 2 ^ k ∧ T1 < 2 ^ k ∧ p < 2 ^ k ∧ p &&& T1 = 0 ∧ p + T1 = T) := by
  obtain ⟨h1, h2, h3, h4⟩ := h
  have e2 : 2 ^ (k + 1) = 2 ^ k + 2 ^ k := by rw [Nat.pow_succ]; omega
  have hA := btA_ok (p := p) (q := q) hk (by omega) (by omega) h3
  by_cases p1 : p < 2 ^ k
  · rw [nblt_t p1] at hA
    by_cases q1 : q < 2 ^ k
    · rw [nblt_t q1] at hA
      have := Nat.le_of_ble_eq_true (show Nat.ble (p + q + 1) (2 ^ k) = true from hA)
      omega
    · rw [nblt_f q1] at hA
      exact Or.inr ⟨q - 2 ^ k, by omega, by omega, p1, Nat.eq_of_beq_eq_true hA, by omega⟩
  · rw [nblt_f p1] at hA
    by_cases q1 : q < 2 ^ k
    · rw [nblt_t q1] at hA
      exact Or.inl ⟨p - 2 ^ k, by omega, by omega, q1, Nat.eq_of_beq_eq_true hA, by omega⟩
    · rw [nblt_f q1] at hA
      cases hA
theorem dj_lt (hk : k < 6) (hp : p < 2 ^ k) (hq : q < 2 ^ k) (h : p &&& q = 0) : p + q < 2 ^ k := by
  have := pow_lt2 (k := k)
  have hA := btA_ok (p := p) (q := q) hk (by omega) (by omega) h
  rw [nblt_t hp, nblt_t hq] at hA
  exact Nat.le_of_ble_eq_true (show Nat.ble (p + q + 1) (2 ^ k) = true from hA)
theorem dj_as (hp : p < 32) (hq : q < 32) (hx : X < 32) (h1 : p &&& q = 0) (h2 : (p + q) &&& X = 0) : p &&& (q + X) = 0 ∧ q &&& X = 0 := by
  have a1 := List.all_eq_true.mp bt_all.2.1 p (List.mem_range.mpr hp)
  have a2 := List.all_eq_true.mp a1 q (List.mem_range.mpr hq)
  have a3 := List.all_eq_true.mp (or_f a2 (by rw [h1]; rfl)) X (List.mem_range.mpr hx)
  obtain ⟨b1, b2⟩ := and_t (or_f a3 (by rw [h2]; rfl))
  exact ⟨Nat.eq_of_beq_eq_true b1, Nat.eq_of_beq_eq_true b2⟩
theorem sub_ok (hs : s < 64) (ha : a &&& s = a) : (((a - 1) &&& s) &&& s = (a - 1) &&& s ∧ (0 < a → (a - 1) &&& s < a)) ∧ (s ^^^ a = s - a ∧ a &&& (s - a) = 0) ∧ ∀ p, p &&& s = p → p < a → p ≤ (a - 1) &&& s := by
  have las : a ≤ s := by rw [← ha]; exact Nat.and_le_right
  have a1 := List.all_eq_true.mp bt_all.2.2.1 s (List.mem_range.mpr hs)
  have a2 := List.all_eq_true.mp a1 a (List.mem_range.mpr (by omega))
  obtain ⟨b1, b2⟩ := and_t (or_f a2 (by rw [ha]; exact Nat.beq_refl a))
  obtain ⟨b3, b4⟩ := and_t b1
  obtain ⟨b5, b6⟩ := and_t b2
  obtain ⟨b7, b8⟩ := and_t b5
  refine ⟨⟨Nat.eq_of_beq_eq_true b3, fun h0 => ?_⟩, ⟨Nat.eq_of_beq_eq_true b7, Nat.eq_of_beq_eq_true b8⟩, fun p hp hpa => ?_⟩
  · rcases Bool.or_eq_true_iff.mp b4 with q | q
    · have := Nat.eq_of_beq_eq_true q
      omega
    · exact Nat.le_of_ble_eq_true (show Nat.ble (((a - 1) &&& s) + 1) a = true from q)
  · have a3 := List.all_eq_true.mp b6 p (List.mem_range.mpr hpa)
    exact Nat.le_of_ble_eq_true (or_f a3 (by rw [hp]; exact Nat.beq_refl p))
theorem spl_sub (hs : s < 64) (h : Spl s p q) : p &&& s = p ∧ p < s ∧ q = s - p := by
  obtain ⟨h1, h2, h3, h4⟩ := h
  have a1 := List.all_eq_true.mp bt_all.2.2.2 s (List.mem_range.mpr hs)
  have a2 := List.all_eq_true.mp a1 p (List.mem_range.mpr (by omega))
  have e : q = s - p := by omega
  exact ⟨Nat.eq_of_beq_eq_true (or_f a2 (by rw [← e, h3]; rfl)), by omega, e⟩
theorem sub_spl (hs : s < 64) (ha : a &&& s = a) (h0 : 0 < a) (h1 : a < s) : Spl s a (s - a) := ⟨h0, by omega, (sub_ok hs ha).2.1.2, by omega⟩
theorem Spl.comm (h : Spl s p q) : Spl s q p := ⟨h.2.1, h.1, by rw [Nat.and_comm]; exact h.2.2.1, by have := h.2.2.2; omega⟩
/-! the costs -/
theorem StC.congr (h : StC N m F pr t C s st) (e : ∀ p, p < s → ∀ c, c < N → C2 p c = C p c) : StC N m F pr t C2 s st := fun c hc => by
  obtain ⟨h1, h2, h3, h4⟩ := h c hc
  have es : ∀ p q, Spl s p q → C2 p c = C p c ∧ C2 q c = C q c := fun p q hs => ⟨e p (by have := hs.2.1; have := hs.2.2.2; omega) c hc, e q (by have := hs.1; have := hs.2.2.2; omega) c hc⟩
  refine ⟨h1, h2, fun p q hs => ?_, ?_⟩
  · obtain ⟨e1, e2⟩ := es p q hs
    rw [e1, e2]
    exact h3 p q hs
  · rcases h4 with h4 | h4 | ⟨p, q, hs, h4⟩
    · exact Or.inl h4
    · exact Or.inr (Or.inl h4)
    · obtain ⟨e1, e2⟩ := es p q hs
      exact Or.inr (Or.inr ⟨p, q, hs, by rw [e1, e2]; exact h4⟩)
theorem SyC.less (h : SyC E N m F pr t C B) {B2 : Nat} (hb : B2 ≤ B) : SyC E N m F pr t C B2 := fun s h1 h2 => h s h1 (by omega)
theorem SyC.congr (h : SyC E N m F pr t C B) (e : ∀ p, p < B → ∀ c, c < N → C2 p c = C p c) : SyC E N m F pr t C2 B := fun s h1 h2 => by
  obtain ⟨st, a1, a2⟩ := h s h1 h2
  refine ⟨st, a1.congr (fun p hp c hc => e p (by omega) c hc), ⟨⟨fun c hc => ?_, fun u q1 q2 c hc => ?_⟩, fun c o w hc ho he => ?_⟩⟩
  · rw [e s h2 c hc]
    exact a2.1.1 c hc
  · rw [e s h2 c hc]
    exact a2.1.2 u q1 q2 c hc
  · rw [e s h2 c hc, e s h2 o ho]
    exact a2.2 c o w hc ho he
theorem sy_low (hE : ∀ c o w, c < N → o < N → E c o w → w = pr c) (hp : ∀ c, c < N → 1 ≤ pr c ∧ pr c ≤ 21) (hF : 21 ≤ F) (h : SyC E N m F pr t C B) : ∀ s, 0 < s → s < B → ∀ c, c < N → pr c ≤ C s c := by
  intro s
  induction s using Nat.strongRecOn with
  | ind s ih =>
    intro h1 h2 c hc
    obtain ⟨st, a1, a2⟩ := h s h1 h2
    refine a2.1.2 pr (fun c o w hc ho he => ?_) (fun c hc => ?_) c hc
    · rw [hE c o w hc ho he]
      have := hp o ho
      omega
    · have hpc := hp c hc
      rcases (a1 c hc).2.2.2 with q | ⟨_, _, _, _, q⟩ | ⟨x, y, hs, q⟩
      · omega
      · omega
      · have b1 := ih x (by have := hs.2.1; have := hs.2.2.2; omega) hs.1 (by have := hs.2.2.2; omega) c hc
        have b2 := ih y (by have := hs.1; have := hs.2.2.2; omega) hs.2.1 (by have := hs.2.2.2; omega) c hc
        omega
theorem sy_hi (h : SyC E N m F pr t C B) (h1 : 0 < s) (h2 : s < B) (hc : c < N) : C s c ≤ F := by
  obtain ⟨st, a1, a2⟩ := h s h1 h2
  exact Int.le_trans (a2.1.1 c hc) (a1 c hc).1
theorem sy_one {i : Nat} (h : SyC E N m F pr t C B) (hi : i < m) (h2 : 2 ^ i < B) (hc : t i < N) : C (2 ^ i) (t i) ≤ pr (t i) := by
  obtain ⟨st, a1, a2⟩ := h (2 ^ i) (Nat.two_pow_pos i) h2
  exact Int.le_trans (a2.1.1 _ hc) ((a1 _ hc).2.1 i hi rfl rfl)
theorem sy_mrg (h : SyC E N m F pr t C B) (hs : Spl s p q) (h2 : s < B) (hc : c < N) : C s c ≤ C p c + C q c - pr c := by
  obtain ⟨st, a1, a2⟩ := h s (by have := hs.1; have := hs.2.2.2; omega) h2
  exact Int.le_trans (a2.1.1 c hc) ((a1 c hc).2.2.1 p q hs)
/-- where nobody goes -/
theorem sy_non (hE : ∀ c o w, c < N → o < N → E c o w → w = pr c) (hp : ∀ c, c < N → 1 ≤ pr c ∧ pr c ≤ 21) (hF : 21 ≤ F) (hok : ∀ c o w, c < N → o < N → E c o w → ok c = true) (ht : ∀ i, i < m → ok (t i) = true) (h : SyC E N m F pr t C B) : ∀ s, 0 < s → s < B → ∀ c, c < N → ok c = false → C s c = F := by
  intro s
  induction s using Nat.strongRecOn with
  | ind s ih =>
    intro h1 h2 c hc hn
    obtain ⟨st, a1, a2⟩ := h s h1 h2
    have es : st c = F := by
      have hpc := hp c hc
      have b0 := (a1 c hc).1
      rcases (a1 c hc).2.2.2 with q | ⟨i, hi, _, ec, _⟩ | ⟨x, y, hs, q⟩
      · exact q
      · have := ht i hi
        rw [← ec, hn] at this
        cases this
      · have b1 := ih x (by have := hs.2.1; have := hs.2.2.2; omega) hs.1 (by have := hs.2.2.2; omega) c hc hn
        have b2 := ih y (by have := hs.1; have := hs.2.2.2; omega) hs.2.1 (by have := hs.2.2.2; omega) c hc hn
        omega
    have l1 := a2.1.1 c hc
    by_cases z : C s c < st c
    · obtain ⟨o, w, o1, he, _⟩ := a2.sup (fun c o w hc ho he => by rw [hE c o w hc ho he]; have := hp c hc; omega) hc z
      have := hok c o w hc o1 he
      rw [hn] at this
      cases this
    · omega
/-- great or not -/
theorem sy_bnd (hE : ∀ c o w, c < N → o < N → E c o w → w = pr c) (hp : ∀ c, c < N → 1 ≤ pr c ∧ pr c ≤ 21) (hF : 21 ≤ F) (hN : N ≤ 256) (h : SyC E N m F pr t C B) : ∀ s, 0 < s → s < B → ∀ c, c < N → C s c ≤ (s : Int) * 11000 - 5500 ∨ F ≤ C s c := by
  intro s
  induction s using Nat.strongRecOn with
  | ind s ih =>
    intro h1 h2 c hc
    obtain ⟨st, a1, a2⟩ := h s h1 h2
    have hlow := sy_low hE hp hF h
    rcases lev_ok (W := 21) (B := (s : Int) * 11000 - 10979) (R := F) (by decide) a2 (fun c o w hc ho he => by rw [hE c o w hc ho he]; exact hp c hc) (fun c hc => by
      have hpc := hp c hc
      rcases (a1 c hc).2.2.2 with q | ⟨_, _, _, _, q⟩ | ⟨x, y, hs, q⟩
      · exact Or.inr (by omega)
      · exact Or.inl (by omega)
      · have e := hs.2.2.2
        have x0 := hs.1
        have y0 := hs.2.1
        have l1 := hlow x x0 (by omega) c hc
        have l2 := hlow y y0 (by omega) c hc
        rcases ih x (by omega) x0 (by omega) c hc with g1 | g1
        · rcases ih y (by omega) y0 (by omega) c hc with g2 | g2
          · exact Or.inl (by omega)
          · exact Or.inr (by omega)
        · exact Or.inr (by omega)) hc with g | g
    · exact Or.inl (by omega)
    · exact Or.inr g
/-- the same with another most -/
theorem sy_cap (hE : ∀ c o w, c < N → o < N → E c o w → w = pr c) (hp : ∀ c, c < N → 1 ≤ pr c ∧ pr c ≤ 21) (hF : 21 ≤ F) {m2 B2 : Nat} (h12 : F ≤ F2) (hm : m ≤ m2) (hB : B ≤ 2 ^ m) (hB2 : B ≤ B2) (h1 : SyC E N m F pr t C1 B) (h2 : SyC E N m2 F2 pr t C2 B2) : ∀ s, 0 < s → s < B → ∀ c, c < N → C1 s c = miR F (C2 s) c := by
  intro s
  induction s using Nat.strongRecOn with
  | ind s ih =>
    intro hs0 hsB c hc
    obtain ⟨st1, a1, g1⟩ := h1 s hs0 hsB
    obtain ⟨st2, a2, g2⟩ := h2 s hs0 (by omega)
    have low1 := sy_low hE hp hF h1
    have e : ∀ c, c < N → miR F st2 c = st1 c := fun c hc => by
      have hpc := hp c hc
      obtain ⟨p1, p2, p3, p4⟩ := a1 c hc
      obtain ⟨r1, r2, r3, r4⟩ := a2 c hc
      have sp : ∀ x y, Spl s x y → (C1 x c = miR F (C2 x) c ∧ C1 y c = miR F (C2 y) c) ∧ pr c ≤ C1 x c ∧ pr c ≤ C1 y c := fun x y hs => by
        have e := hs.2.2.2
        have x0 := hs.1
        have y0 := hs.2.1
        exact ⟨⟨ih x (by omega) x0 (by omega) c hc, ih y (by omega) y0 (by omega) c hc⟩, low1 x x0 (by omega) c hc, low1 y y0 (by omega) c hc⟩
      refine Int.le_antisymm ?_ ?_
      · -- miR F st2 ≤ st1
        show (if st2 c ≤ F then st2 c else F) ≤ st1 c
        have k2 : (if st2 c ≤ F then st2 c else F) ≤ F ∧ (if st2 c ≤ F then st2 c else F) ≤ st2 c := by split <;> omega
        rcases p4 with q | ⟨i, hi, i1, i2, q⟩ | ⟨x, y, hs, q⟩
        · omega
        · have := r2 i (by omega) i1 i2
          omega
        · have b := r3 x y hs
          obtain ⟨⟨e1, e2⟩, l1, l2⟩ := sp x y hs
          have e1 : C1 x c = if C2 x c ≤ F then C2 x c else F := e1
          have e2 : C1 y c = if C2 y c ≤ F then C2 y c else F := e2
          split at e1 <;> split at e2 <;> omega
      · show st1 c ≤ (if st2 c ≤ F then st2 c else F)
        have k : st1 c ≤ st2 c := by
          rcases r4 with q | ⟨i, hi, i1, i2, q⟩ | ⟨x, y, hs, q⟩
          · omega
          · have him : i < m := by
              by_cases z : i < m
              · exact z
              · have := Nat.pow_le_pow_right (n := 2) (by decide) (show m ≤ i by omega)
                omega
            have := p2 i him i1 i2
            omega
          · have b := p3 x y hs
            obtain ⟨⟨e1, e2⟩, l1, l2⟩ := sp x y hs
            have e1 : C1 x c = if C2 x c ≤ F then C2 x c else F := e1
            have e2 : C1 y c = if C2 y c ≤ F then C2 y c else F := e2
            split at e1 <;> split at e2 <;> omega
        split <;> omega
    exact g1.uniq ((g2.cap (F := F) (fun c o w hc ho he => by rw [hE c o w hc ho he]; have := hp c hc; omega)).congr e) c hc
/-- who comes to the last DOOR from what joins it: the same as from there -/
theorem rer (hE : ∀ c o w, c < N → o < N → E c o w → w = pr c) (hp : ∀ c, c < N → 1 ≤ pr c ∧ pr c ≤ 21) (hF : 21 ≤ F) (hk : k < 6) (hS : ∀ c o w, c < N → o < N → E c o w → E o c (pr o)) (htk : t k < N) (h : SyC E N (k + 1) F pr t C (2 ^ (k + 1))) : ∀ T, T < 2 ^ k → ∀ X, X < 2 ^ k → T &&& X = 0 → ∀ c, c < N → C0q pr C (T + X) (t k) + pr c ≤ C (T + 2 ^ k) c + C0q pr C X c := by
  have k32 : 2 ^ k ≤ 32 := by
    have := Nat.pow_le_pow_right (n := 2) (by decide) (show k ≤ 5 by omega)
    omega
  have e2 : 2 ^ (k + 1) = 2 ^ k + 2 ^ k := by rw [Nat.pow_succ]; omega
  have pk := Nat.two_pow_pos k
  have low := sy_low hE hp hF h
  have c0 : C0q pr C 0 = pr := if_pos rfl
  have cs : ∀ s, 0 < s → C0q pr C s = C s := fun s hs => if_neg (by omega)
  have lowX : ∀ X, X < 2 ^ k → ∀ c, c < N → pr c ≤ C0q pr C X c := fun X hX c hc => by
    by_cases z : X = 0
    · rw [z, c0]
      exact Int.le_refl _
    · rw [cs X (by omega)]
      exact low X (by omega) (by omega) c hc
  have hiX : ∀ X, X < 2 ^ k → ∀ c, c < N → C0q pr C X c ≤ F := fun X hX c hc => by
    by_cases z : X = 0
    · rw [z, c0]
      have := hp c hc
      omega
    · rw [cs X (by omega)]
      exact sy_hi h (by omega) (by omega) hc
  have stX : ∀ X, X < 2 ^ k → ∀ c o w, c < N → o < N → E c o w → C0q pr C X c ≤ C0q pr C X o + w := fun X hX c o w hc ho he => by
    by_cases z : X = 0
    · rw [z, c0, hE c o w hc ho he]
      have := hp o ho
      omega
    · rw [cs X (by omega)]
      obtain ⟨st, _, g⟩ := h X (by omega) (by omega)
      exact g.2 c o w hc ho he
  -- what joins two parts
  have mrg : ∀ x y, x < 2 ^ k → y < 2 ^ k → x &&& y = 0 → 0 < x → ∀ c, c < N → C0q pr C (x + y) c ≤ C x c + C0q pr C y c - pr c := fun x y hx hy hxy x0 c hc => by
    rw [cs (x + y) (by omega)]
    by_cases z : y = 0
    · rw [z, c0, Nat.add_zero]
      omega
    · rw [cs y (by omega)]
      exact sy_mrg h ⟨x0, by omega, hxy, rfl⟩ (by have := dj_lt hk hx hy hxy; omega) hc
  intro T
  induction T using Nat.strongRecOn with
  | ind T ih =>
    intro hT X hX hTX c hc
    obtain ⟨st, a1, g⟩ := h (T + 2 ^ k) (by omega) (by omega)
    have hTXk := dj_lt hk hT hX hTX
    -- one part of a split with the last DOOR in it
    have half : ∀ T1 y, 0 < y → T1 < 2 ^ k → y < 2 ^ k → T1 &&& y = 0 → T1 + y = T → ∀ c, c < N → C0q pr C (T + X) (t k) + pr c - C0q pr C X c ≤ C (T1 + 2 ^ k) c + C y c - pr c := fun T1 y y0 h1 h2 h3 h4 c hc => by
      obtain ⟨d1, d2⟩ := dj_as (p := T1) (q := y) (X := X) (by omega) (by omega) (by omega) h3 (by rw [h4]; exact hTX)
      have i1 := ih T1 (by omega) h1 (y + X) (dj_lt hk h2 hX d2) d1 c hc
      have i2 := mrg y X h2 hX d2 y0 c hc
      rw [show T1 + (y + X) = T + X by omega] at i1
      omega
    have key := g.1.2 (fun c => C0q pr C (T + X) (t k) + pr c - C0q pr C X c) (fun c o w hc ho he => by
      have r := stX X hX o c (pr o) ho hc (hS c o w hc ho he)
      have e := hE c o w hc ho he
      show C0q pr C (T + X) (t k) + pr c - C0q pr C X c ≤ C0q pr C (T + X) (t k) + pr o - C0q pr C X o + w
      omega) (fun c hc => by
      show C0q pr C (T + X) (t k) + pr c - C0q pr C X c ≤ st c
      rcases (a1 c hc).2.2.2 with q | ⟨i, hi, i1, i2, q⟩ | ⟨x, y, hs, q⟩
      · have l1 := lowX X hX c hc
        have l2 := hiX (T + X) hTXk (t k) htk
        omega
      · have ik : i = k := by
          by_cases z : i = k
          · exact z
          · have := Nat.pow_lt_pow_right (a := 2) (by decide) (show i < k by omega)
            omega
        have T0 : T = 0 := by rw [ik] at i1; omega
        have e1 : c = t k := by rw [i2, ik]
        rw [e1] at q ⊢
        rw [T0, Nat.zero_add]
        omega
      · rw [q]
        rcases spl_top hk hT hs with ⟨T1, p1, p2, p3, p4, p5⟩ | ⟨T1, p1, p2, p3, p4, p5⟩
        · rw [p1]
          exact half T1 y hs.2.1 p2 p3 p4 p5 c hc
        · rw [p1]
          have := half T1 x hs.1 p2 p3 (by rw [Nat.and_comm]; exact p4) (by omega) c hc
          omega) c hc
    have key : C0q pr C (T + X) (t k) + pr c - C0q pr C X c ≤ C (T + 2 ^ k) c := key
    omega
/-- no way from where nobody goes -/
theorem GfE.nar (h : GfE E N v u) (hw : ∀ c o w, c < N → o < N → E c o w → 0 ≤ w) (hok : ∀ c o w, c < N → o < N → E c o w → ok c = true) (h2 : ∀ c o w, c < N → o < N → (E2 c o w ↔ E c o w ∧ ok o = true)) (hv : ∀ c, c < N → v c ≤ F) (hn : ∀ c, c < N → ok c = false → v c = F) : GfE E2 N v u := by
  have un : ∀ c, c < N → ok c = false → u c = F := fun c hc hx => by
    have l := h.1.1 c hc
    have e := hn c hc hx
    by_cases z : u c < v c
    · obtain ⟨o, w, o1, he, _⟩ := h.sup hw hc z
      have := hok c o w hc o1 he
      rw [hx] at this
      cases this
    · omega
  refine ⟨⟨h.1.1, fun u' q1 q2 c hc => ?_⟩, fun c o w hc ho he => h.2 c o w hc ho ((h2 c o w hc ho).mp he).1⟩
  have key := h.1.2 (fun c => if ok c = true then u' c else F) (fun c o w hc ho he => by
    have oc := hok c o w hc ho he
    have w0 := hw c o w hc ho he
    show (if ok c = true then u' c else F) ≤ (if ok o = true then u' o else F) + w
    rw [if_pos oc]
    by_cases z : ok o = true
    · rw [if_pos z]
      exact q1 c o w hc ho ((h2 c o w hc ho).mpr ⟨he, z⟩)
    · rw [if_neg z]
      have := q2 c hc
      have := hv c hc
      omega) (fun c hc => by
    show (if ok c = true then u' c else F) ≤ v c
    by_cases z : ok c = true
    · rw [if_pos z]
      exact q2 c hc
    · rw [if_neg z, hn c hc (Bool.eq_false_iff.mpr z)]
      exact Int.le_refl _) c hc
  have key : (if ok c = true then u' c else F) ≤ u c := key
  by_cases z : ok c = true
  · rw [if_pos z] at key
    exact key
  · have z := Bool.eq_false_iff.mpr z
    have a := q2 c hc
    rw [hn c hc z] at a
    rw [un c hc z]
    exact a
end LPUR
/-! ways there and back -/
section LSYM
variable {w hh c d : Int32} {P : PK} {cn on dn : Nat}
theorem besI_hit (w1 : 4 ≤ w.toInt) (w2 : w.toInt ≤ 16) (h1 : 4 ≤ hh.toInt) (h2 : hh.toInt ≤ 16) (c0 : 0 ≤ c.toInt) (c2 : c.toInt ≤ 255) (x0 : 0 ≤ c.toInt % w.toInt + (eastI d).toInt) (x1 : c.toInt % w.toInt + (eastI d).toInt < w.toInt) (y0 : 0 ≤ c.toInt / w.toInt + (southI d).toInt) (y1 : c.toInt / w.toInt + (southI d).toInt < hh.toInt) : (besI w hh c d).toInt = w.toInt * (c.toInt / w.toInt + (southI d).toInt) + (c.toInt % w.toInt + (eastI d).toInt) := by
  unfold besI
  have cd1 : (c / w).toInt = c.toInt / w.toInt := by
    rw [i32_div (by omega), Int.tdiv_eq_ediv_of_nonneg c0]
  have cd2 : c.toInt / w.toInt * w.toInt ≤ c.toInt := Int.ediv_mul_le _ (by omega)
  have cd3 : 0 ≤ c.toInt / w.toInt := Int.ediv_nonneg c0 (by omega)
  have cd4 : 0 ≤ c.toInt / w.toInt * w.toInt := Int.mul_nonneg cd3 (by omega)
  have cd5 : c.toInt / w.toInt ≤ c.toInt := Int.ediv_le_self _ c0
  have cm1 : (c / w * w).toInt = c.toInt / w.toInt * w.toInt := by
    rw [i32_mul (by rw [cd1]; omega) (by rw [cd1]; omega), cd1]
  have cm2 : (c - c / w * w).toInt = c.toInt % w.toInt := by
    rw [i32_sub (by rw [cm1]; omega) (by rw [cm1]; omega), cm1, Int.emod_def, Int.mul_comm]
  have cm3 : 0 ≤ c.toInt % w.toInt := Int.emod_nonneg _ (by omega)
  have cm4 : c.toInt % w.toInt < w.toInt := Int.emod_lt_of_pos _ (by omega)
  have ex1 : (c - c / w * w + eastI d).toInt = c.toInt % w.toInt + (eastI d).toInt := by
    rw [i32_add (by omega) (by omega), cm2]
  have ey1 : (c / w + southI d).toInt = c.toInt / w.toInt + (southI d).toInt := by
    rw [i32_add (by omega) (by omega), cd1]
  obtain ⟨x, ex⟩ : ∃ x, x = c - c / w * w + eastI d := ⟨_, rfl⟩
  obtain ⟨y, ey⟩ : ∃ y, y = c / w + southI d := ⟨_, rfl⟩
  rw [← ex] at ex1
  rw [← ey] at ey1
  rw [← ex, ← ey]
  have o1 : (1 : Int32).toInt = 1 := rfl
  have ew : (w - 1).toInt = w.toInt - 1 := i32_sub (by omega) (by omega)
  have eh : (hh - 1).toInt = hh.toInt - 1 := i32_sub (by omega) (by omega)
  rw [if_neg (fun q => by rw [i32_z] at q; omega), if_neg (fun q => by rw [Int32.lt_iff_toInt_lt] at q; omega), if_neg (fun q => by rw [i32_z] at q; omega), if_neg (fun q => by rw [Int32.lt_iff_toInt_lt] at q; omega)]
  have m1 : 0 ≤ w.toInt * y.toInt := Int.mul_nonneg (by omega) (by omega)
  have m2 : w.toInt * y.toInt ≤ 16 * 15 := Int.mul_le_mul w2 (by omega) (by omega) (by omega)
  have e1 : (w * y).toInt = w.toInt * y.toInt := i32_mul (by omega) (by omega)
  have e2 : (w * y + x).toInt = w.toInt * y.toInt + x.toInt := by
    rw [← e1]
    exact i32_add (by omega) (by omega)
  rw [e2, ey1, ex1]
theorem dir_opp : ∀ d, d < 8 → (eastI (nI ((d + 4) % 8))).toInt = -(eastI (nI d)).toInt ∧ (southI (nI ((d + 4) % 8))).toInt = -(southI (nI d)).toInt := by decide +kernel
theorem bes_sym (hw : wh4 P) (hc : cn < clsP P) (ho : on < clsP P) (hd : dn < 8) (h : besP P (nI cn) (nI dn) = nI on) : besP P (nI on) (nI ((dn + 4) % 8)) = nI cn := by
  obtain ⟨ic, tc, c2⟩ := nIin hw hc
  obtain ⟨io, to, o2⟩ := nIin hw ho
  obtain ⟨_, _, q1, q2, q3, q4⟩ := col_row hw ic
  obtain ⟨d1, d2⟩ := dir_opp dn hd
  rcases besP_cases (d := nI dn) hw ic with e | ⟨x, y, x0, x1, y0, y1, e, e1, e2⟩
  · rw [h] at e
    have : (nI on).toInt = (-1 : Int32).toInt := by rw [e]
    rw [to] at this
    have tm : (-1 : Int32).toInt = -1 := rfl
    omega
  · rw [h] at e
    obtain ⟨m1, m2⟩ := mod_div (w := (P 0).toInt) (x := x) (y := y) (by have := hw.1; omega) x0 x1
    rw [← e] at m1 m2
    refine Int32.toInt_inj.mp ?_
    have hit := besI_hit (w := P 0) (hh := P 1) (c := nI on) (d := nI ((dn + 4) % 8)) hw.1 hw.2.1 hw.2.2.1 hw.2.2.2 (by omega) (by omega) (by rw [m1, d1]; omega) (by rw [m1, d1]; omega) (by rw [m2, d2]; omega) (by rw [m2, d2]; omega)
    have hit : (besP P (nI on) (nI ((dn + 4) % 8))).toInt = _ := hit
    rw [hit, m1, m2, d1, d2, show y + -(southI (nI dn)).toInt = (nI cn).toInt / (P 0).toInt by omega, show x + -(eastI (nI dn)).toInt = (nI cn).toInt % (P 0).toInt by omega]
    exact Int.mul_ediv_add_emod _ _
end LSYM
