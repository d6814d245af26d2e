/-! THE WALKING, in itself: facts -/
def wh4 (P : PK) : Prop := 4 ≤ (P 0).toInt ∧ (P 0).toInt ≤ 16 ∧ 4 ≤ (P 1).toInt ∧ (P 1).toInt ≤ 16
def inC (P : PK) (c : Int32) : Prop := 0 ≤ c.toInt ∧ c.toInt.toNat < clsP P
/-- nothing of a CELL is below 0 -/
def nnC (P : PK) (c : Int32) : Prop := 0 ≤ (cE P 2 c).toInt ∧ 0 ≤ (cE P 3 c).toInt ∧ 0 ≤ (cE P 4 c).toInt ∧ 0 ≤ (cE P 5 c).toInt
section PUR
variable {g q : TQ} {P : PK} {c d here goal : Int32}
theorem cls_int (h : wh4 P) : (clsP P : Int) = (P 0).toInt * (P 1).toInt ∧ clsP P ≤ 256 ∧ 16 ≤ clsP P := by
  obtain ⟨h1, h2, h3, h4⟩ := h
  have e : (clsP P : Int) = (P 0).toInt * (P 1).toInt := by
    unfold clsP
    rw [Int.natCast_mul, Int.toNat_of_nonneg (by omega), Int.toNat_of_nonneg (by omega)]
  have m1 : (P 0).toInt * (P 1).toInt ≤ 16 * 16 := Int.mul_le_mul h2 h4 (by omega) (by omega)
  have m2 : 4 * 4 ≤ (P 0).toInt * (P 1).toInt := Int.mul_le_mul h1 h3 (by omega) (by omega)
  exact ⟨e, by omega, by omega⟩
theorem inC.lt (h : wh4 P) (hc : inC P c) : 0 ≤ c.toInt ∧ c.toInt < (P 0).toInt * (P 1).toInt ∧ c.toInt ≤ 255 := by
  obtain ⟨e1, e2, _⟩ := cls_int h
  obtain ⟨c1, c2⟩ := hc
  have := Int.toNat_of_nonneg c1
  omega
theorem inC.mk (h : wh4 P) (c0 : 0 ≤ c.toInt) (c1 : c.toInt < (P 0).toInt * (P 1).toInt) : inC P c := by
  obtain ⟨e1, _, _⟩ := cls_int h
  have := Int.toNat_of_nonneg c0
  exact ⟨c0, by omega⟩
theorem inC.nat (h : wh4 P) {k : Nat} (hk : k < clsP P) : inC P (nI k) ∧ (nI k).toInt.toNat = k := by
  obtain ⟨_, e2, _⟩ := cls_int h
  have e : (nI k).toInt = (k : Int) := nI_toInt (by omega)
  refine ⟨⟨by omega, by rw [e]; exact hk⟩, by rw [e]; rfl⟩
/-- what is beside: nothing, or w * y + x, both in THE PARK -/
theorem besI_cases {w hh c d : Int32} (w1 : 4 ≤ w.toInt) (w2 : w.toInt ≤ 16) (h1 : 4 ≤ hh.toInt) (h2 : hh.toInt ≤ 16) (c0 : 0 ≤ c.toInt) (c2 : c.toInt ≤ 255) : besI w hh c d = -1 ∨ ∃ x y : Int, 0 ≤ x ∧ x < w.toInt ∧ 0 ≤ y ∧ y < hh.toInt ∧ (besI w hh c d).toInt = w.toInt * y + x ∧ x = c.toInt % w.toInt + (eastI d).toInt ∧ y = c.toInt / w.toInt + (southI d).toInt := by
  unfold besI
  have cd1 : (c / w).toInt = c.toInt / w.toInt := by
    rw [i32_div (by omega), Int.tdiv_eq_ediv_of_nonneg c0]
  have cd2 : c.toInt / w.toInt * w.toInt ≤ c.toInt := Int.ediv_mul_le _ (by omega)
  have cd3 : 0 ≤ c.toInt / w.toInt := Int.ediv_nonneg c0 (by omega)
  have cd4 : 0 ≤ c.toInt / w.toInt * w.toInt := Int.mul_nonneg cd3 (by omega)
  have cd5 : c.toInt / w.toInt ≤ c.toInt := Int.ediv_le_self _ c0
  have cm1 : (c / w * w).toInt = c.toInt / w.toInt * w.toInt := by
    rw [i32_mul (by rw [cd1]; omega) (by rw [cd1]; omega), cd1]
  have cm2 : (c - c / w * w).toInt = c.toInt % w.toInt := by
    rw [i32_sub (by rw [cm1]; omega) (by rw [cm1]; omega), cm1, Int.emod_def, Int.mul_comm]
  have cm3 : 0 ≤ c.toInt % w.toInt := Int.emod_nonneg _ (by omega)
  have cm4 : c.toInt % w.toInt < w.toInt := Int.emod_lt_of_pos _ (by omega)
  have ea : -1 ≤ (eastI d).toInt ∧ (eastI d).toInt ≤ 1 := by
    unfold eastI
    split
    · decide
    · split <;> decide
  have so : -1 ≤ (southI d).toInt ∧ (southI d).toInt ≤ 1 := by
    unfold southI
    split
    · decide
    · split
      · decide
      · split <;> decide
  have ex1 : (c - c / w * w + eastI d).toInt = c.toInt % w.toInt + (eastI d).toInt := by
    rw [i32_add (by omega) (by omega), cm2]
  have ey1 : (c / w + southI d).toInt = c.toInt / w.toInt + (southI d).toInt := by
    rw [i32_add (by omega) (by omega), cd1]
  obtain ⟨x, ex⟩ : ∃ x, x = c - c / w * w + eastI d := ⟨_, rfl⟩
  obtain ⟨y, ey⟩ : ∃ y, y = c / w + southI d := ⟨_, rfl⟩
  rw [← ex] at ex1
  rw [← ey] at ey1
  rw [← ex, ← ey]
  have o1 : (1 : Int32).toInt = 1 := rfl
  have ew : (w - 1).toInt = w.toInt - 1 := i32_sub (by omega) (by omega)
  have eh : (hh - 1).toInt = hh.toInt - 1 := i32_sub (by omega) (by omega)
  by_cases c1 : x < 0
  · rw [if_pos c1]; exact Or.inl rfl
  rw [if_neg c1]
  by_cases c2 : w - 1 < x
  · rw [if_pos c2]; exact Or.inl rfl
  rw [if_neg c2]
  by_cases c3 : y < 0
  · rw [if_pos c3]; exact Or.inl rfl
  rw [if_neg c3]
  by_cases c4 : hh - 1 < y
  · rw [if_pos c4]; exact Or.inl rfl
  rw [if_neg c4]
  rw [i32_z] at c1 c3
  rw [Int32.lt_iff_toInt_lt] at c2 c4
  have m1 : 0 ≤ w.toInt * y.toInt := Int.mul_nonneg (by omega) (by omega)
  have m2 : w.toInt * y.toInt ≤ 16 * 15 := Int.mul_le_mul w2 (by omega) (by omega) (by omega)
  have e1 : (w * y).toInt = w.toInt * y.toInt := i32_mul (by omega) (by omega)
  have e2 : (w * y + x).toInt = w.toInt * y.toInt + x.toInt := by
    rw [← e1]
    exact i32_add (by omega) (by omega)
  exact Or.inr ⟨x.toInt, y.toInt, by omega, by omega, by omega, by omega, e2, ex1, ey1⟩
theorem besP_cases (h : wh4 P) (hc : inC P c) : besP P c d = -1 ∨ ∃ x y : Int, 0 ≤ x ∧ x < (P 0).toInt ∧ 0 ≤ y ∧ y < (P 1).toInt ∧ (besP P c d).toInt = (P 0).toInt * y + x ∧ x = c.toInt % (P 0).toInt + (eastI d).toInt ∧ y = c.toInt / (P 0).toInt + (southI d).toInt := by
  obtain ⟨c0, c1, c2⟩ := hc.lt h
  exact besI_cases h.1 h.2.1 h.2.2.1 h.2.2.2 c0 c2
theorem besP_in (h : wh4 P) (hc : inC P c) : besP P c d = -1 ∨ inC P (besP P c d) := by
  rcases besP_cases (d := d) h hc with e | ⟨x, y, x0, x1, y0, y1, e, _⟩
  · exact Or.inl e
  · refine Or.inr (inC.mk h ?_ ?_)
    · rw [e]
      have := Int.mul_nonneg (a := (P 0).toInt) (b := y) (by have := h.1; omega) y0
      omega
    · rw [e]
      have h1 : (P 0).toInt * (y + 1) ≤ (P 0).toInt * (P 1).toInt := Int.mul_le_mul_of_nonneg_left (by omega) (by have := h.1; omega)
      rw [Int.mul_add, Int.mul_one] at h1
      omega
theorem absI_toInt {x : Int32} (h : -1000 ≤ x.toInt ∧ x.toInt ≤ 1000) : (absI x).toInt = if x.toInt < 0 then -x.toInt else x.toInt := by
  unfold absI
  by_cases hx : x < 0
  · rw [if_pos hx, if_pos (i32_z.mp hx), i32_neg (by omega)]
  · rw [if_neg hx, if_neg (fun q => hx (i32_z.mpr q))]
/-- c's column and row -/
theorem col_rowI {w hh c : Int32} (w1 : 4 ≤ w.toInt) (w2 : w.toInt ≤ 16) (c0 : 0 ≤ c.toInt) (c2 : c.toInt ≤ 255) (c1 : c.toInt < w.toInt * hh.toInt) : (c - c / w * w).toInt = c.toInt % w.toInt ∧ (c / w).toInt = c.toInt / w.toInt ∧ 0 ≤ c.toInt % w.toInt ∧ c.toInt % w.toInt < w.toInt ∧ 0 ≤ c.toInt / w.toInt ∧ c.toInt / w.toInt < hh.toInt := by
  have cd1 : (c / w).toInt = c.toInt / w.toInt := by
    rw [i32_div (by omega), Int.tdiv_eq_ediv_of_nonneg c0]
  have cd2 : c.toInt / w.toInt * w.toInt ≤ c.toInt := Int.ediv_mul_le _ (by omega)
  have cd3 : 0 ≤ c.toInt / w.toInt := Int.ediv_nonneg c0 (by omega)
  have cd4 : 0 ≤ c.toInt / w.toInt * w.toInt := Int.mul_nonneg cd3 (by omega)
  have cm1 : (c / w * w).toInt = c.toInt / w.toInt * w.toInt := by
    have cd5 : c.toInt / w.toInt ≤ c.toInt := Int.ediv_le_self _ c0
    rw [i32_mul (by rw [cd1]; omega) (by rw [cd1]; omega), cd1]
  have cm2 : (c - c / w * w).toInt = c.toInt % w.toInt := by
    rw [i32_sub (by rw [cm1]; omega) (by rw [cm1]; omega), cm1, Int.emod_def, Int.mul_comm]
  refine ⟨cm2, cd1, Int.emod_nonneg _ (by omega), Int.emod_lt_of_pos _ (by omega), cd3, ?_⟩
  refine Int.ediv_lt_of_lt_mul (by omega) ?_
  rw [Int.mul_comm]
  exact c1
theorem col_row (h : wh4 P) (hc : inC P c) : (c - c / P 0 * P 0).toInt = c.toInt % (P 0).toInt ∧ (c / P 0).toInt = c.toInt / (P 0).toInt ∧ 0 ≤ c.toInt % (P 0).toInt ∧ c.toInt % (P 0).toInt < (P 0).toInt ∧ 0 ≤ c.toInt / (P 0).toInt ∧ c.toInt / (P 0).toInt < (P 1).toInt := by
  obtain ⟨c0, c1, c2⟩ := hc.lt h
  exact col_rowI h.1 h.2.1 c0 c2 c1
theorem mod_div {w x y : Int} (hw : 0 < w) (x0 : 0 ≤ x) (x1 : x < w) : (w * y + x) % w = x ∧ (w * y + x) / w = y := by
  constructor
  · rw [Int.add_comm, Int.add_mul_emod_self_left, Int.emod_eq_of_lt x0 x1]
  · rw [Int.add_comm, Int.add_mul_ediv_left _ _ (by omega), Int.ediv_eq_zero_of_lt x0 x1, Int.zero_add]
/-- the goal beside is near -/
theorem near_ok (h : wh4 P) (hc : inC P here) (hg : 0 ≤ goal.toInt) (hb : besP P here d = goal) : acrP P here goal < 2 ∧ aloP P here goal < 2 := by
  rcases besP_cases (d := d) h hc with e | ⟨x, y, x0, x1, y0, y1, e, e1, e2⟩
  · rw [e] at hb
    rw [← hb] at hg
    exact absurd hg (by decide)
  · have hin : inC P goal := by
      rcases besP_in (d := d) h hc with q | q
      · rw [q] at hb
        rw [← hb] at hg
        exact absurd hg (by decide)
      · rw [hb] at q
        exact q
    rw [hb] at e
    obtain ⟨a1, a2, a3, a4, a5, a6⟩ := col_row h hc
    obtain ⟨b1, b2, _, _, _, _⟩ := col_row h hin
    obtain ⟨m1, m2⟩ := mod_div (y := y) (by have := h.1; omega) x0 x1
    rw [e, m1] at b1
    rw [e, m2] at b2
    have hw2 := h.2.1
    have hh2 := h.2.2.2
    have t2 : (2 : Int32).toInt = 2 := rfl
    have ea : -1 ≤ (eastI d).toInt ∧ (eastI d).toInt ≤ 1 := by
      unfold eastI
      split
      · decide
      · split <;> decide
    have so : -1 ≤ (southI d).toInt ∧ (southI d).toInt ≤ 1 := by
      unfold southI
      split
      · decide
      · split
        · decide
        · split <;> decide
    have s1 : ((here - here / P 0 * P 0) - (goal - goal / P 0 * P 0)).toInt = here.toInt % (P 0).toInt - x := by
      rw [i32_sub (by omega) (by omega), a1, b1]
    have s2 : (here / P 0 - goal / P 0).toInt = here.toInt / (P 0).toInt - y := by
      rw [i32_sub (by omega) (by omega), a2, b2]
    constructor
    · unfold acrP
      rw [Int32.lt_iff_toInt_lt, absI_toInt (by omega), s1, t2]
      split <;> omega
    · unfold aloP
      rw [Int32.lt_iff_toInt_lt, absI_toInt (by omega), s2, t2]
      split <;> omega
theorem toP_no (hn : ∀ d, besP P here d ≠ goal) : ∀ (k : Nat) (d : Int32), toP P here goal k d = -1 := by
  intro k
  induction k with
  | zero => intro d; rfl
  | succ k ih =>
    intro d
    unfold toP
    rw [if_neg (hn d)]
    exact ih (d + 1)
/-- for each MEASURE what the lines that hold tell, added -/
noncomputable def sumL (g : TQ) (P : PK) (q : TQ) (c m : Int32) : List Lnq → Int32 → Int32
  | [], s => s
  | l :: r, s => sumL g P q c m r (if l.1 = 5 ∧ hldP g P q l c = true ∧ l.2.1 = m then s + l.2.2.1 else s)
noncomputable def totP (a : Int32 → Int32) (s : Int32 → Int32) : Int32 := s 0 * a 0 + s 1 * a 1 + s 2 * a 2 + s 3 * a 3 + s 4 * a 4 + s 5 * a 5 - s 6 * a 6
theorem tot_add (a s : Int32 → Int32) (m n : Int32) (hm : 0 ≤ m.toInt ∧ m.toInt ≤ 6) : totP a (fun k => if m = k then s k + n else s k) = totP a s + (if m = 6 then -(n * a m) else n * a m) := by
  obtain ⟨j, hj, rfl⟩ := i32_in (k := 6) hm.1 hm.2 (by decide)
  unfold totP
  dsimp only
  match j, hj with
  | 0, _ =>
    have e : (nI 0 : Int32) = 0 := rfl
    rw [e, if_pos rfl, if_neg (by decide), if_neg (by decide), if_neg (by decide), if_neg (by decide), if_neg (by decide), if_neg (by decide), if_neg (by decide)]
    grind
  | 1, _ =>
    have e : (nI 1 : Int32) = 1 := rfl
    rw [e, if_neg (by decide), if_pos rfl, if_neg (by decide), if_neg (by decide), if_neg (by decide), if_neg (by decide), if_neg (by decide), if_neg (by decide)]
    grind
  | 2, _ =>
    have e : (nI 2 : Int32) = 2 := rfl
    rw [e, if_neg (by decide), if_neg (by decide), if_pos rfl, if_neg (by decide), if_neg (by decide), if_neg (by decide), if_neg (by decide), if_neg (by decide)]
    grind
  | 3, _ =>
    have e : (nI 3 : Int32) = 3 := rfl
    rw [e, if_neg (by decide), if_neg (by decide), if_neg (by decide), if_pos rfl, if_neg (by decide), if_neg (by decide), if_neg (by decide), if_neg (by decide)]
    grind
  | 4, _ =>
    have e : (nI 4 : Int32) = 4 := rfl
    rw [e, if_neg (by decide), if_neg (by decide), if_neg (by decide), if_neg (by decide), if_pos rfl, if_neg (by decide), if_neg (by decide), if_neg (by decide)]
    grind
  | 5, _ =>
    have e : (nI 5 : Int32) = 5 := rfl
    rw [e, if_neg (by decide), if_neg (by decide), if_neg (by decide), if_neg (by decide), if_neg (by decide), if_pos rfl, if_neg (by decide), if_neg (by decide)]
    grind
  | 6, _ =>
    have e : (nI 6 : Int32) = 6 := rfl
    rw [e, if_neg (by decide), if_neg (by decide), if_neg (by decide), if_neg (by decide), if_neg (by decide), if_neg (by decide), if_pos rfl, if_pos rfl]
    grind
theorem wei_sum {w : WC} : ∀ (ls : List Lnq), (∀ l ∈ ls, l.1 = 5 → 0 ≤ l.2.1.toInt ∧ l.2.1.toInt ≤ 6) → ∀ (v : Int32) (s : Int32 → Int32), weiL g P q w c d ls v + totP (meaQ g P q w c d) s = v + totP (meaQ g P q w c d) (fun m => sumL g P q c m ls (s m)) := by
  intro ls
  induction ls with
  | nil => intro _ v s; rfl
  | cons l r ih =>
    intro hl v s
    unfold weiL sumL
    have ih' := ih (fun l hm => hl l (List.mem_cons_of_mem _ hm))
    by_cases h : l.1 = 5 ∧ hldP g P q l c = true
    · rw [if_pos h]
      have e : (fun m => sumL g P q c m r (if l.1 = 5 ∧ hldP g P q l c = true ∧ l.2.1 = m then s m + l.2.2.1 else s m)) = (fun m => sumL g P q c m r ((fun k => if l.2.1 = k then s k + l.2.2.1 else s k) m)) := by
        funext m
        by_cases hm : l.2.1 = m
        · rw [if_pos ⟨h.1, h.2, hm⟩]
          dsimp only
          rw [if_pos hm]
        · rw [if_neg (fun q => hm q.2.2)]
          dsimp only
          rw [if_neg hm]
      rw [e]
      have h1 := ih' (v + (if l.2.1 = 6 then -(l.2.2.1 * meaQ g P q w c d l.2.1) else l.2.2.1 * meaQ g P q w c d l.2.1)) (fun k => if l.2.1 = k then s k + l.2.2.1 else s k)
      rw [tot_add _ _ _ _ (hl l List.mem_cons_self h.1)] at h1
      grind
    · rw [if_neg h]
      have e : (fun m => sumL g P q c m r (if l.1 = 5 ∧ hldP g P q l c = true ∧ l.2.1 = m then s m + l.2.2.1 else s m)) = (fun m => sumL g P q c m r (s m)) := by
        funext m
        rw [if_neg (fun q => h ⟨q.1, q.2.1⟩)]
      rw [e]
      exact ih' v s
theorem wei_tot {w : WC} (hl : ∀ l ∈ q.2, l.1 = 5 → 0 ≤ l.2.1.toInt ∧ l.2.1.toInt ≤ 6) : weiP g P q w c d = dstP P c w.2.1 + totP (meaQ g P q w c d) (fun m => sumL g P q c m q.2 0) := by
  have h := wei_sum (g := g) (P := P) (q := q) (c := c) (d := d) (w := w) q.2 hl (dstP P c w.2.1) (fun _ => 0)
  have e : totP (meaQ g P q w c d) (fun _ => 0) = 0 := by
    unfold totP
    grind
  rw [e] at h
  unfold weiP
  grind
theorem sumL_rng {m : Int32} : ∀ (ls : List Lnq), (∀ l ∈ ls, l.1 = 5 → 0 ≤ l.2.2.1.toInt ∧ l.2.2.1.toInt ≤ 99) → ∀ s : Int32, 0 ≤ s.toInt → s.toInt + 99 * (ls.length : Int) ≤ 100000 → 0 ≤ (sumL g P q c m ls s).toInt := by
  intro ls
  induction ls with
  | nil => intro _ s h0 _; exact h0
  | cons l r ih =>
    intro hl s h0 h1
    have h1 : s.toInt + 99 * ((r.length + 1 : Nat) : Int) ≤ 100000 := h1
    unfold sumL
    refine ih (fun l hm => hl l (List.mem_cons_of_mem _ hm)) _ ?_ ?_
    · split
      · rename_i h
        have := hl l List.mem_cons_self h.1
        rw [i32_add (by omega) (by omega)]
        omega
      · exact h0
    · split
      · rename_i h
        have := hl l List.mem_cons_self h.1
        rw [i32_add (by omega) (by omega)]
        omega
      · omega
end PUR
