/-! THE WALKING, in itself: facts -/
def wh4 (P : PK) : Prop := 4 ≤ (P 0).toInt ∧ (P 0).toInt ≤ 16 ∧ 4 ≤ (P 1).toInt ∧ (P 1).toInt ≤ 16
def inC (P : PK) (c : Int32) : Prop := 0 ≤ c.toInt ∧ c.toInt.toNat < clsP P
/-- nothing of a CELL is below 0 -/
def nnC (P : PK) (c : Int32) : Prop := 0 ≤ (cE P 2 c).toInt ∧ 0 ≤ (cE P 3 c).toInt ∧ 0 ≤ (cE P 4 c).toInt ∧ 0 ≤ (cE P 5 c).toInt
section PUR
variable {g q : TQ} {P : PK} {c d here goal : Int32}
theorem cls_int (h : wh4 P) : (clsP P : Int) = (P 0).toInt * (P 1).toInt ∧ clsP P ≤ 256 ∧ 16 ≤ clsP P := by
  obtain ⟨h1, h2, h3, h4⟩ := h
  have e : (clsP P : Int) = (P 0).toInt * (P 1).toInt := by
    unfold clsP
    rw [Int.natCast_mul, Int.toNat_of_nonneg (by omega), Int.toNat_of_nonneg (by omega)]
  have m1 : (P 0).toInt * (P 1).toInt ≤ 16 * 16 := Int.mul_le_mul h2 h4 (by omega) (by omega)
  have m2 : 4 * 4 ≤ (P 0).toInt * (P 1).toInt := Int.mul_le_mul h1 h3 (by omega) (by omega)
  exact ⟨e, by omega, by omega⟩
theorem inC.lt (h : wh4 P) (hc : inC P c) : 0 ≤ c.toInt ∧ c.toInt < (P 0).toInt * (P 1).toInt ∧ c.toInt ≤ 255 := by
  obtain ⟨e1, e2, _⟩ := cls_int h
  obtain ⟨c1, c2⟩ := hc
  have := Int.toNat_of_nonneg c1
  omega
theorem inC.mk (h : wh4 P) (c0 : 0 ≤ c.toInt) (c1 : c.toInt < (P 0).toInt * (P 1).toInt) : inC P c := by
  obtain ⟨e1, _, _⟩ := cls_int h
  have := Int.toNat_of_nonneg c0
  exact ⟨c0, by omega⟩
theorem inC.nat (h : wh4 P) {k : Nat} (hk : k < clsP P) : inC P (nI k) ∧ (nI k).toInt.toNat = k := by
  obtain ⟨_, e2, _⟩ := cls_int h
  have e : (nI k).toInt = (k : Int) := nI_toInt (by omega)
  refine ⟨⟨by omega, by rw [e]; exact hk⟩, by rw [e]; rfl⟩
/-- what is beside: nothing, or w * y + x, both in THE PARK -/
theorem besI_cases {w hh c d : Int32} (w1 : 4 ≤ w.toInt) (w2 : w.toInt ≤ 16) (h1 : 4 ≤ hh.toInt) (h2 : hh.toInt ≤ 16) (c0 : 0 ≤ c.toInt) (c2 : c.toInt ≤ 255) : besI w hh c d = -1 ∨ ∃ x y : Int, 0 ≤ x ∧ x < w.toInt ∧ 0 ≤ y ∧ y < hh.toInt ∧ (besI w hh c d).toInt = w.toInt * y + x ∧ x = c.toInt % w.toInt + (eastI d).toInt ∧ y = c.toInt / w.toInt + (southI d).toInt := by
  unfold besI
  have cd1 : (c / w).toInt = c.toInt / w.toInt := by
    rw [i32_div (by omega), Int.tdiv_eq_ediv_of_nonneg c0]
  have cd2 : c.toInt / w.toInt * w.toInt ≤ c.toInt := Int.ediv_mul_le _ (by omega)
  have cd3 : 0 ≤ c.toInt / w.toInt := Int.ediv_nonneg c0 (by omega)
  have cd4 : 0 ≤ c.toInt / w.toInt * w.toInt := Int.mul_nonneg cd3 (by omega)
  have cd5 : c.toInt / w.toInt ≤ c.toInt := Int.ediv_le_self _ c0
  have cm1 : (c / w * w).toInt = c.toInt / w.toInt * w.toInt := by
    rw [i32_mul (by rw [cd1]; omega) (by rw [cd1]; omega), cd1]
  have cm2 : (c - c / w * w).toInt = c.toInt % w.toInt := by
    rw [i32_sub (by rw [cm1]; omega) (by rw [cm1]; omega), cm1, Int.emod_def, Int.mul_comm]
  have cm3 : 0 ≤ c.toInt % w.toInt := Int.emod_nonneg _ (by omega)
  have cm4 : c.toInt % w.toInt < w.toInt := Int.emod_lt_of_pos _ (by omega)
  have ea : -1 ≤ (eastI d).toInt ∧ (eastI d).toInt ≤ 1 := by
    unfold eastI
    split
    · decide
    · split <;> decide
  have so : -1 ≤ (southI d).toInt ∧ (southI d).toInt ≤ 1 := by
    unfold southI
    split
    · decide
    · split
      · decide
      · split <;> decide
  have ex1 : (c - c / w * w + eastI d).toInt = c.toInt % w.toInt + (eastI d).toInt := by
    rw [i32_add (by omega) (by omega), cm2]
  have ey1 : (c / w + southI d).toInt = c.toInt / w.toInt + (southI d).toInt := by
    rw [i32_add (by omega) (by omega), cd1]
  obtain ⟨x, ex⟩ : ∃ x, x = c - c / w * w + eastI d := ⟨_, rfl⟩
  obtain ⟨y, ey⟩ : ∃ y, y = c / w + southI d := ⟨_, rfl⟩
  rw [← ex] at ex1
  rw [← ey] at ey1
  rw [← ex, ← ey]
  have o1 : (1 : Int32).toInt = 1 := rfl
  have ew : (w - 1).toInt = w.toInt - 1 := i32_sub (by omega) (by omega)
  have eh : (hh - 1).toInt = hh.toInt - 1 := i32_sub (by omega) (by omega)
  by_cases c1 : x < 0
  · rw [if_pos c1]; exact Or.inl rfl
  rw [if_neg c1]
  by_cases c2 : w - 1 < x
  · rw [if_pos c2]; exact Or.inl rfl
  rw [if_neg c2]
  by_cases c3 : y < 0
  · rw [if_pos c3]; exact Or.inl rfl
  rw [if_neg c3]
  by_cases c4 : hh - 1 < y
  · rw [if_pos c4]; exact Or.inl rfl
  rw [if_neg c4]
  rw [i32_z] at c1 c3
  rw [Int32.lt_iff_toInt_lt] at c2 c4
  have m1 : 0 ≤ w.toInt * y.toInt := Int.mul_nonneg (by omega) (by omega)
  have m2 : w.toInt * y.toInt ≤ 16 * 15 := Int.mul_le_mul w2 (by omega) (by omega) (by omega)
  have e1 : (w * y).toInt = w.toInt * y.toInt := i32_mul (by omega) (by omega)
  have e2 : (w * y + x).toInt = w.toInt * y.toInt + x.toInt := by
    rw [← e1]
    exact i32_add (by omega) (by omega)
  exact Or.inr ⟨x.toInt, y.toInt, by omega, by omega, by omega, by omega, e2, ex1, ey1⟩
theorem besP_cases (h : wh4 P) (hc : inC P c) : besP P c d = -1 ∨ ∃ x y : Int, 0 ≤ x ∧ x < (P 0).toInt ∧ 0 ≤ y ∧ y < (P 1).toInt ∧ (besP P c d).toInt = (P 0).toInt * y + x ∧ x = c.toInt % (P 0).toInt + (eastI d).toInt ∧ y = c.toInt / (P 0).toInt + (southI d).toInt := by
  obtain ⟨c0, c1, c2⟩ := hc.lt h
  exact besI_cases h.1 h.2.1 h.2.2.1 h.2.2.2 c0 c2
theorem besP_in (h : wh4 P) (hc : inC P c) : besP P c d = -1 ∨ inC P (besP P c d) := by
  rcases besP_cases (d := d) h hc with e | ⟨x, y, x0, x1, y0, y1, e, _⟩
  · exact Or.inl e
  · refine Or.inr (inC.mk h ?_ ?_)
    · rw [e]
      have := Int.mul_nonneg (a := (P 0).toInt) (b := y) (by have := h.1; omega) y0
      omega
    · rw [e]
      have h1 : (P 0).toInt * (y + 1) ≤ (P 0).toInt * (P 1).toInt := Int.mul_le_mul_of_nonneg_left (by omega) (by have := h.1; omega)
      rw [Int.mul_add, Int.mul_one] at h1
      omega
theorem absI_toInt {x : Int32} (h : -1000 ≤ x.toInt ∧ x.toInt ≤ 1000) : (absI x).toInt = if x.toInt < 0 then -x.toInt else x.toInt := by
  unfold absI
  by_cases hx : x < 0
  · rw [if_pos hx, if_pos (i32_z.mp hx), i32_neg (by omega)]
  · rw [if_neg hx, if_neg (fun q => hx (i32_z.mpr q))]
/-- c's column and row -/
theorem col_rowI {w hh c : Int32} (w1 : 4 ≤ w.toInt) (w2 : w.toInt ≤ 16) (c0 : 0 ≤ c.toInt) (c2 : c.toInt ≤ 255) (c1 : c.toInt < w.toInt * hh.toInt) : (c - c / w * w).toInt = c.toInt % w.toInt ∧ (c / w).toInt = c.toInt / w.toInt ∧ 0 ≤ c.toInt % w.toInt ∧ c.toInt % w.toInt < w.toInt ∧ 0 ≤ c.toInt / w.toInt ∧ c.toInt / w.toInt < hh.toInt := by
  have cd1 : (c / w).toInt = c.toInt / w.toInt := by
    rw [i32_div (by omega), Int.tdiv_eq_ediv_of_nonneg c0]
  have cd2 : c.toInt / w.toInt * w.toInt ≤ c.toInt := Int.ediv_mul_le _ (by omega)
  have cd3 : 0 ≤ c.toInt / w.toInt := Int.ediv_nonneg c0 (by omega)
  have cd4 : 0 ≤ c.toInt / w.toInt * w.toInt := Int.mul_nonneg cd3 (by omega)
  have cm1 : (c / w * w).toInt = c.toInt / w.toInt * w.toInt := by
    have cd5 : c.toInt / w.toInt ≤ c.toInt := Int.ediv_le_self _ c0
    rw [i32_mul (by rw [cd1]; omega) (by rw [cd1]; omega), cd1]
  have cm2 : (c - c / w * w).toInt = c.toInt % w.toInt := by
    rw [i32_sub (by rw [cm1]; omega) (by rw [cm1]; omega), cm1, Int.emod_def, Int.mul_comm]
  refine ⟨cm2, cd1, Int.emod_nonneg _ (by omega), Int.emod_lt_of_pos _ (by omega), cd3, ?_⟩
  refine Int.ediv_lt_of_lt_mul (by omega) ?_
  rw [Int.mul_comm]
  exact c1
theorem col_row (h : wh4 P) (hc : inC P c) : (c - c / P 0 * P 0).toInt = c.toInt % (P 0).toInt ∧ (c / P 0).toInt = c.toInt / (P 0).toInt ∧ 0 ≤ c.toInt % (P 0).toInt ∧ c.toInt % (P 0).toInt < (P 0).toInt ∧ 0 ≤ c.toInt / (P 0).toInt ∧ c.toInt / (P 0).toInt < (P 1).toInt := by
  obtain ⟨c0, c1, c2⟩ := hc.lt h
  exact col_rowI h.1 h.2.1 c0 c2 c1
theorem mod_div {w x y : Int} (hw : 0 < w) (x0 : 0 ≤ x) (x1 : x < w) : (w * y + x) % w = x ∧ (w * y + x) / w = y := by
  constructor
  · rw [Int.add_comm, Int.add_mul_emod_self_left, Int.emod_eq_of_lt x0 x1]
  · rw [Int.add_comm, Int.add_mul_ediv_left _ _ (by omega), Int.ediv_eq_zero_of_lt x0 x1, Int.zero_add]
/-- the goal beside is near -/
theorem near_ok (h : wh4 P) (hc : inC P here) (hg : 0 ≤ goal.toInt) (hb : besP P here d = goal) : acrP P here goal < 2 ∧ aloP P here goal < 2 := by
  rcases besP_cases (d := d) h hc with e | ⟨x, y, x0, x1, y0, y1, e, e1, e2⟩
  · rw [e] at hb
    rw [← hb] at hg
    exact absurd hg (by decide)
  · have hin : inC P goal := by
      rcases besP_in (d := d) h hc with q | q
      · rw [q] at hb
        rw [← hb] at hg
        exact absurd hg (by decide)
      · rw [hb] at q
        exact q
    rw [hb] at e
    obtain ⟨a1, a2, a3, a4, a5, a6⟩ := col_row h hc
    obtain ⟨b1, b2, _, _, _, _⟩ := col_row h hin
    obtain ⟨m1, m2⟩ := mod_div (y := y) (by have := h.1; omega) x0 x1
    rw [e, m1] at b1
    rw [e, m2] at b2
    have hw2 := h.2.1
    have hh2 := h.2.2.2
    have t2 : (2 : Int32).toInt = 2 := rfl
    have ea : -1 ≤ (eastI d).toInt ∧ (eastI d).toInt ≤ 1 := by
      unfold eastI
      split
      · decide
      · split <;> decide
    have so : -1 ≤ (southI d).toInt ∧ (southI d).toInt ≤ 1 := by
      unfold southI
      split
      · decide
      · split
        · decide
        · split <;> decide
    have s1 : ((here - here / P 0 * P 0) - (goal - goal / P 0 * P 0)).toInt = here.toInt % (P 0).toInt - x := by
      rw [i32_sub (by omega) (by omega), a1, b1]
    have s2 : (here / P 0 - goal / P 0).toInt = here.toInt / (P 0).toInt - y := by
      rw [i32_sub (by omega) (by omega), a2, b2]
    constructor
    · unfold acrP
      rw [Int32.lt_iff_toInt_lt, absI_toInt (by omega), s1, t2]
      split <;> omega
    · unfold aloP
      rw [Int32.lt_iff_toInt_lt, absI_toInt (by omega), s2, t2]
      split <;> omega
theorem toP_no (hn : ∀ d, besP P here d ≠ goal) : ∀ (k : Nat) (d : Int32), toP P here goal k d = -1 := by
  intro k
  induction k with
  | zero => intro d; rfl
  | succ k ih =>
    intro d
    unfold toP
    rw [if_neg (hn d)]
    exact ih (d + 1)
/-- for each MEASURE what the lines that hold tell, added -/
noncomputable def sumL (g : TQ) (P : PK) (q : TQ) (c m : Int32) : List Lnq → Int32 → Int32
  | [], s => s
  | l :: r, s => sumL g P q c m r (if l.1 = 5 ∧ hldP g P q l c = true ∧ l.2.1 = m then s + l.2.2.1 else s)
noncomputable def totP (a : Int32 → Int32) (s : Int32 → Int32) : Int32 := s 0 * a 0 + s 1 * a 1 + s 2 * a 2 + s 3 * a 3 + s 4 * a 4 + s 5 * a 5 - s 6 * a 6
theorem tot_add (a s : Int32 → Int32) (m n : Int32) (hm : 0 ≤ m.toInt ∧ m.toInt ≤ 6) : totP a (fun k => if m = k then s k + n else s k) = totP a s + (if m = 6 then -(n * a m) else n * a m) := by
  obtain ⟨j, hj, rfl⟩ := i32_in (k := 6) hm.1 hm.2 (by decide)
  unfold totP
  dsimp only
  match j, hj with
  | 0, _ =>
    have e : (nI 0 : Int32) = 0 := rfl
    rw [e, if_pos rfl, if_neg (by decide), if_neg (by decide), if_neg (by decide), if_neg (by decide), if_neg (by decide), if_neg (by decide), if_neg (by decide)]
    grind
  | 1, _ =>
    have e : (nI 1 : Int32) = 1 := rfl
    rw [e, if_neg (by decide), if_pos rfl, if_neg (by decide), if_neg (by decide), if_neg (by decide), if_neg (by decide), if_neg (by decide), if_neg (by decide)]
    grind
  | 2, _ =>
    have e : (nI 2 : Int32) = 2 := rfl
    rw [e, if_neg (by decide), if_neg (by decide), if_pos rfl, if_neg (by decide), if_neg (by decide), if_neg (by decide), if_neg (by decide), if_neg (by decide)]
    grind
  | 3, _ =>
    have e : (nI 3 : Int32) = 3 := rfl
    rw [e, if_neg (by decide), if_neg (by decide), if_neg (by decide), if_pos rfl, if_neg (by decide), if_neg (by decide), if_neg (by decide), if_neg (by decide)]
    grind
  | 4, _ =>
    have e : (nI 4 : Int32) = 4 := rfl
    rw [e, if_neg (by decide), if_neg (by decide), if_neg (by decide), if_neg (by decide), if_pos rfl, if_neg (by decide), if_neg (by decide), if_neg (by decide)]
    grind
  | 5, _ =>
    have e : (nI 5 : Int32) = 5 := rfl
    rw [e, if_neg (by decide), if_neg (by decide), if_neg (by decide), if_neg (by decide), if_neg (by decide), if_pos rfl, if_neg (by decide), if_neg (by decide)]
    grind
  | 6, _ =>
    have e : (nI 6 : Int32) = 6 := rfl
    rw [e, if_neg (by decide), if_neg (by decide), if_neg (by decide), if_neg (by decide), if_neg (by decide), if_neg (by decide), if_pos rfl, if_pos rfl]
    grind
theorem wei_sum {w : WC} : ∀ (ls : List Lnq), (∀ l ∈ ls, l.1 = 5 → 0 ≤ l.2.1.toInt ∧ l.2.1.toInt ≤ 6) → ∀ (v : Int32) (s : Int32 → Int32), weiL g P q w c d ls v + totP (meaQ g P q w c d) s = v + totP (meaQ g P q w c d) (fun m => sumL g P q c m ls (s m)) := by
  intro ls
  induction ls with
  | nil => intro _ v s; rfl
  | cons l r ih =>
    intro hl v s
    unfold weiL sumL
    have ih' := ih (fun l hm => hl l (List.mem_cons_of_mem _ hm))
    by_cases h : l.1 = 5 ∧ hldP g P q l c = true
    · rw [if_pos h]
      have e : (fun m => sumL g P q c m r (if l.1 = 5 ∧ hldP g P q l c = true ∧ l.2.1 = m then s m + l.2.2.1 else s m)) = (fun m => sumL g P q c m r ((fun k => if l.2.1 = k then s k + l.2.2.1 else s k) m)) := by
        funext m
        by_cases hm : l.2.1 = m
        · rw [if_pos ⟨h.1, h.2, hm⟩]
          dsimp only
          rw [if_pos hm]
        · rw [if_neg (fun q => hm q.2.2)]
          dsimp only
          rw [if_neg hm]
      rw [e]
      have h1 := ih' (v + (if l.2.1 = 6 then -(l.2.2.1 * meaQ g P q w c d l.2.1) else l.2.2.1 * meaQ g P q w c d l.2.1)) (fun k => if l.2.1 = k then s k + l.2.2.1 else s k)
      rw [tot_add _ _ _ _ (hl l List.mem_cons_self h.1)] at h1
      grind
    · rw [if_neg h]
      have e : (fun m => sumL g P q c m r (if l.1 = 5 ∧ hldP g P q l c = true ∧ l.2.1 = m then s m + l.2.2.1 else s m)) = (fun m => sumL g P q c m r (s m)) := by
        funext m
        rw [if_neg (fun q => h ⟨q.1, q.2.1⟩)]
      rw [e]
      exact ih' v s
theorem wei_tot {w : WC} (hl : ∀ l ∈ q.2, l.1 = 5 → 0 ≤ l.2.1.toInt ∧ l.2.1.toInt ≤ 6) : weiP g P q w c d = dstP P c w.2.1 + totP (meaQ g P q w c d) (fun m => sumL g P q c m q.2 0) := by
  have h := wei_sum (g := g) (P := P) (q := q) (c := c) (d := d) (w := w) q.2 hl (dstP P c w.2.1) (fun _ => 0)
  have e : totP (meaQ g P q w c d) (fun _ => 0) = 0 := by
    unfold totP
    grind
  rw [e] at h
  unfold weiP
  grind
theorem sumL_rng {m : Int32} : ∀ (ls : List Lnq), (∀ l ∈ ls, l.1 = 5 → 0 ≤ l.2.2.1.toInt ∧ l.2.2.1.toInt ≤ 99) → ∀ s : Int32, 0 ≤ s.toInt → s.toInt + 99 * (ls.length : Int) ≤ 100000 → 0 ≤ (sumL g P q c m ls s).toInt := by
  intro ls
  induction ls with
  | nil => intro _ s h0 _; exact h0
  | cons l r ih =>
    intro hl s h0 h1
    have h1 : s.toInt + 99 * ((r.length + 1 : Nat) : Int) ≤ 100000 := h1
    unfold sumL
    refine ih (fun l hm => hl l (List.mem_cons_of_mem _ hm)) _ ?_ ?_
    · split
      · rename_i h
        have := hl l List.mem_cons_self h.1
        rw [i32_add (by omega) (by omega)]
        omega
      · exact h0
    · split
      · rename_i h
        have := hl l List.mem_cons_self h.1
        rw [i32_add (by omega) (by omega)]
        omega
      · omega
end PUR
/-! THE WALKING, in itself: what stays well formed -/
def okD (P : PK) : Prop := wh4 P ∧ (0 ≤ (P 2).toInt ∧ (P 2).toInt ≤ 9 ∧ ∀ d, d < (P 2).toInt.toNat → inC P (P (3 + d))) ∧ 0 ≤ (P 12).toInt ∧ (P 12).toInt ≤ 24 ∧ ∀ k, k < (P 12).toInt.toNat → (0 ≤ (P (13 + 6 * k)).toInt ∧ (P (13 + 6 * k)).toInt < (P 2).toInt) ∧ (0 ≤ (P (13 + 6 * k + 1)).toInt ∧ (P (13 + 6 * k + 1)).toInt < (P 2).toInt) ∧ (0 ≤ (P (13 + 6 * k + 2)).toInt ∧ (P (13 + 6 * k + 2)).toInt ≤ 5) ∧ 1 ≤ (P (13 + 6 * k + 3)).toInt ∧ (P (13 + 6 * k + 5) = 0 ∨ P (13 + 6 * k + 5) = 1)
def okK (P : PK) : Prop := 0 ≤ (P 157).toInt ∧ (P 157).toInt ≤ 60 ∧ ∀ k, k < (P 157).toInt.toNat → inC P (P (158 + 6 * k)) ∧ 0 ≤ (P (158 + 6 * k + 1)).toInt ∧ (P (158 + 6 * k + 1)).toInt < (P 12).toInt ∧ -1 ≤ (P (158 + 6 * k + 3)).toInt
def okC1 (B : Nat) (P : PK) (c : Int32) : Prop := (0 ≤ (cE P 0 c).toInt ∧ (cE P 0 c).toInt ≤ 6) ∧ 0 ≤ (cE P 2 c).toInt ∧ (0 ≤ (cE P 3 c).toInt ∧ (cE P 3 c).toInt ≤ 999) ∧ (0 ≤ (cE P 4 c).toInt ∧ (cE P 4 c).toInt ≤ 200) ∧ (0 ≤ (cE P 5 c).toInt ∧ (cE P 5 c).toInt ≤ (B : Int)) ∧ 0 ≤ (cE P 6 c).toInt ∧ (cE P 6 c).toInt ≤ (B : Int)
def okE (B : Nat) (P : PK) : Prop := ∀ c, inC P c → okC1 B P c
section KEE
variable {g q : TQ} {P P' : PK} {c c' d x : Int32} {B f f' i j k n : Nat}
theorem up_eq : uPk P i x i = x := if_pos rfl
theorem up_ne (h : j ≠ i) : uPk P i x j = P j := if_neg h
theorem cls_eq (h0 : P' 0 = P 0) (h1 : P' 1 = P 1) : clsP P' = clsP P := by unfold clsP; rw [h0, h1]
theorem inC.eq (h0 : P' 0 = P 0) (h1 : P' 1 = P 1) : inC P' c ↔ inC P c := by unfold inC; rw [cls_eq h0 h1]
theorem wh4.eq (h0 : P' 0 = P 0) (h1 : P' 1 = P 1) (h : wh4 P) : wh4 P' := by unfold wh4; rw [h0, h1]; exact h
theorem bes_eq (h0 : P' 0 = P 0) (h1 : P' 1 = P 1) : besP P' c d = besP P c d := by unfold besP; rw [h0, h1]
theorem cX_ge : 522 ≤ cX f c := by unfold cX; omega
theorem cX_inj (hf : f < 7) (hf' : f' < 7) (hc : 0 ≤ c.toInt) (hc' : 0 ≤ c'.toInt) (h : cX f' c' = cX f c) : f' = f ∧ c' = c := by
  unfold cX at h
  have e1 : f' = f := by omega
  refine ⟨e1, Int32.toInt_inj.mp ?_⟩
  have := Int.toNat_of_nonneg hc
  have := Int.toNat_of_nonneg hc'
  omega
theorem cE_up (hf : f < 7) (hf' : f' < 7) (hc : 0 ≤ c.toInt) (hc' : 0 ≤ c'.toInt) : cE (uPk P (cX f c) x) f' c' = if f' = f ∧ c' = c then x else cE P f' c' := by
  by_cases h : f' = f ∧ c' = c
  · rw [if_pos h, h.1, h.2]
    exact up_eq
  · rw [if_neg h]
    exact up_ne (fun q => h (cX_inj hf hf' hc hc' q))
theorem cE_lo (h : i < 522) : cE (uPk P i x) f c = cE P f c := up_ne (by have := cX_ge (f := f) (c := c); omega)
theorem okD.sb (hs : ∀ j, j < 157 → P' j = P j) (h : okD P) : okD P' := by
  obtain ⟨h1, ⟨h2, h3, h4⟩, h5, h6, h7⟩ := h
  have e0 := hs 0 (by decide)
  have e1 := hs 1 (by decide)
  refine ⟨h1.eq e0 e1, ⟨by rw [hs 2 (by decide)]; exact h2, by rw [hs 2 (by decide)]; exact h3, fun d hd => ?_⟩, by rw [hs 12 (by decide)]; exact h5, by rw [hs 12 (by decide)]; exact h6, fun k hk => ?_⟩
  · rw [hs 2 (by decide)] at hd
    rw [inC.eq e0 e1, hs _ (by omega)]
    exact h4 d hd
  · rw [hs 12 (by decide)] at hk
    rw [hs _ (by omega), hs 2 (by decide), hs _ (by omega), hs _ (by omega), hs _ (by omega), hs _ (by omega)]
    exact h7 k hk
theorem okE.sb (h0 : P' 0 = P 0) (h1 : P' 1 = P 1) (hs : ∀ j, 522 ≤ j → P' j = P j) (h : okE B P) : okE B P' := fun c hc => by
  have e : ∀ f, cE P' f c = cE P f c := fun f => hs _ cX_ge
  unfold okC1
  rw [e, e, e, e, e, e]
  exact h c ((inC.eq h0 h1).mp hc)
theorem okE.more {B' : Nat} (hB : B ≤ B') (h : okE B P) : okE B' P := fun c hc => by
  obtain ⟨a1, a2, a3, a4, a5, a6⟩ := h c hc
  exact ⟨a1, a2, a3, a4, ⟨a5.1, by omega⟩, a6.1, by omega⟩
theorem okE.nn (h : okE B P) : ∀ c, inC P c → nnC P c := fun c hc => by
  obtain ⟨a1, a2, a3, a4, a5, a6⟩ := h c hc
  exact ⟨a2, a3.1, a4.1, a5.1⟩
theorem fst_rng {k c d : Int32} (hd : 0 ≤ d.toInt ∧ d.toInt ≤ 999) : ∀ (ls : List Lnq), (∀ l ∈ ls, nuOK l.1 l.2.1 l.2.2.1) → 0 ≤ (fstL g P k c d ls).toInt ∧ (fstL g P k c d ls).toInt ≤ 999 := by
  intro ls
  induction ls with
  | nil => intro _; exact hd
  | cons l r ih =>
    intro h
    unfold fstL
    split
    · have := h l List.mem_cons_self
      exact ⟨this.1, this.2.1⟩
    · exact ih (fun l hl => h l (List.mem_cons_of_mem _ hl))
theorem wea_E (hc : 0 ≤ c.toInt) (hc' : 0 ≤ c'.toInt) (hf : f < 7) : cE (weaP g P c) f c' = if f = 3 ∧ c' = c ∧ grnB P c = true then (if 999 < cE P 3 c + fstL g P 0 c 5 g.2 then 999 else cE P 3 c + fstL g P 0 c 5 g.2) else cE P f c' := by
  unfold weaP
  obtain ⟨z, ez⟩ : ∃ z, z = (if 999 < cE P 3 c + fstL g P 0 c 5 g.2 then 999 else cE P 3 c + fstL g P 0 c 5 g.2) := ⟨_, rfl⟩
  rw [← ez]
  by_cases hg : grnB P c = true
  · rw [if_pos hg, cE_up (by decide) hf hc hc']
    by_cases h : f = 3 ∧ c' = c
    · rw [if_pos h, if_pos ⟨h.1, h.2, hg⟩]
    · rw [if_neg h, if_neg (fun q => h ⟨q.1, q.2.1⟩)]
  · rw [if_neg hg, if_neg (fun q => hg q.2.2)]
theorem trd_E (hc : 0 ≤ c.toInt) (hc' : 0 ≤ c'.toInt) (hf : f < 7) : cE (trdP g P c) f c' = if f = 5 ∧ c' = c then cE P 5 c + 1 else if f = 6 ∧ c' = c then cE P 6 c + 1 else cE (weaP g P c) f c' := by
  have w5 : cE (weaP g P c) 5 c = cE P 5 c := by rw [wea_E hc hc (by decide), if_neg (fun q => absurd q.1 (by decide))]
  have w6 : cE (weaP g P c) 6 c = cE P 6 c := by rw [wea_E hc hc (by decide), if_neg (fun q => absurd q.1 (by decide))]
  have w66 : cE (uPk (weaP g P c) (cX 5 c) (cE P 5 c + 1)) 6 c = cE P 6 c := by rw [cE_up (by decide) (by decide) hc hc, if_neg (fun q => absurd q.1 (by decide)), w6]
  unfold trdP
  rw [w5, w66, cE_up (by decide) hf hc hc', cE_up (by decide) hf hc hc']
  by_cases h5 : f = 5 ∧ c' = c
  · rw [if_pos h5, if_pos h5, if_neg (fun q => absurd (q.1.symm.trans h5.1) (by decide))]
  · rw [if_neg h5, if_neg h5]
theorem trd_lo (h : j < 522) : trdP g P c j = P j := by
  have h1 : ∀ f, j ≠ cX f c := fun f => by have := cX_ge (f := f) (c := c); omega
  unfold trdP
  rw [up_ne (h1 6), up_ne (h1 5)]
  unfold weaP
  split
  · exact up_ne (h1 3)
  · rfl
theorem okE.trd (hw : LW g) (hB : B ≤ 100000000) (h : okE B P) (hc : inC P c) : okE (B + 1) (trdP g P c) := fun c' hc' => by
  have e0 : trdP g P c 0 = P 0 := trd_lo (by decide)
  have e1 : trdP g P c 1 = P 1 := trd_lo (by decide)
  have hc2 : inC P c' := (inC.eq e0 e1).mp hc'
  have t1 : (1 : Int32).toInt = 1 := rfl
  have t9 : (999 : Int32).toInt = 999 := rfl
  obtain ⟨a1, a2, a3, a4, a5, a6⟩ := h c' hc2
  obtain ⟨_, _, b3, _, b5, b6⟩ := h c hc
  have fr := fst_rng (g := g) (P := P) (k := 0) (c := c) (d := 5) (by decide) g.2 (fun l hl => (hw l hl).1)
  have ew : ∀ f, f < 7 → f ≠ 3 → cE (weaP g P c) f c' = cE P f c' := fun f hf h3 => by rw [wea_E hc.1 hc2.1 hf, if_neg (fun q => h3 q.1)]
  unfold okC1
  rw [trd_E hc.1 hc2.1 (by decide), trd_E hc.1 hc2.1 (by decide), trd_E hc.1 hc2.1 (by decide), trd_E hc.1 hc2.1 (by decide), trd_E hc.1 hc2.1 (by decide), trd_E hc.1 hc2.1 (by decide)]
  rw [if_neg (fun q => absurd q.1 (by decide)), if_neg (fun q => absurd q.1 (by decide)), ew 0 (by decide) (by decide)]
  rw [if_neg (fun q => absurd q.1 (by decide)), if_neg (fun q => absurd q.1 (by decide)), ew 2 (by decide) (by decide)]
  rw [if_neg (fun q => absurd q.1 (by decide)), if_neg (fun q => absurd q.1 (by decide))]
  rw [if_neg (fun q => absurd q.1 (by decide)), if_neg (fun q => absurd q.1 (by decide)), ew 4 (by decide) (by decide)]
  rw [ew 5 (by decide) (by decide), ew 6 (by decide) (by decide)]
  have s5 : (cE P 5 c + 1).toInt = (cE P 5 c).toInt + 1 := i32_add (by omega) (by omega)
  have s6 : (cE P 6 c + 1).toInt = (cE P 6 c).toInt + 1 := i32_add (by omega) (by omega)
  refine ⟨a1, a2, ?_, a4, ?_, ?_⟩
  · rw [wea_E hc.1 hc2.1 (by decide)]
    split
    · split
      · decide
      · rename_i h9
        rw [Int32.lt_iff_toInt_lt, t9, i32_add (by omega) (by omega)] at h9
        rw [i32_add (by omega) (by omega)]
        omega
    · exact a3
  · by_cases hcc : c' = c
    · rw [if_pos ⟨rfl, hcc⟩, s5]
      omega
    · rw [if_neg (fun q => hcc q.2), if_neg (fun q => hcc q.2)]
      omega
  · rw [if_neg (fun q => absurd q.1 (by decide))]
    by_cases hcc : c' = c
    · rw [if_pos ⟨rfl, hcc⟩, s6]
      omega
    · rw [if_neg (fun q => hcc q.2)]
      omega
/-! how many are on a CELL -/
theorem crd_congr : ∀ n, (∀ t, t < n → P' (158 + 6 * t) = P (158 + 6 * t)) → crdP P' c n = crdP P c n := by
  intro n
  induction n with
  | zero => intro _; rfl
  | succ n ih =>
    intro h
    show crdP P' c n + _ = crdP P c n + _
    rw [ih (fun t ht => h t (by omega)), h n (by omega)]
noncomputable def onI (a c : Int32) : Int32 := if a = c then 1 else 0
theorem crd_up : ∀ n k, k < n → (∀ t, t < n → t ≠ k → P' (158 + 6 * t) = P (158 + 6 * t)) → crdP P' c n = crdP P c n - onI (P (158 + 6 * k)) c + onI (P' (158 + 6 * k)) c := by
  intro n
  induction n with
  | zero => intro k h; exact absurd h (Nat.not_lt_zero k)
  | succ n ih =>
    intro k hk h
    show crdP P' c n + onI (P' (158 + 6 * n)) c = crdP P c n + onI (P (158 + 6 * n)) c - _ + _
    by_cases hkn : k = n
    · subst hkn
      rw [crd_congr k (fun t ht => h t (by omega) (by omega))]
      grind
    · rw [ih k (by omega) (fun t ht => h t (by omega)), h n (by omega) (by omega)]
      grind
theorem crd_del : ∀ n k, k ≤ n → (∀ t, t < k → P' (158 + 6 * t) = P (158 + 6 * t)) → (∀ t, k ≤ t → t < n → P' (158 + 6 * t) = P (158 + 6 * (t + 1))) → crdP P' c n = crdP P c (n + 1) - onI (P (158 + 6 * k)) c := by
  intro n
  induction n with
  | zero =>
    intro k hk _ _
    have : k = 0 := by omega
    subst this
    show (0 : Int32) = 0 + onI (P (158 + 6 * 0)) c - _
    grind
  | succ n ih =>
    intro k hk h1 h2
    show crdP P' c n + onI (P' (158 + 6 * n)) c = crdP P c (n + 1) + onI (P (158 + 6 * (n + 1))) c - _
    by_cases hkn : k = n + 1
    · subst hkn
      rw [crd_congr n (fun t ht => h1 t (by omega)), h1 n (by omega)]
      show crdP P c n + onI (P (158 + 6 * n)) c = crdP P c n + onI (P (158 + 6 * n)) c + _ - _
      grind
    · rw [ih k (by omega) h1 (fun t h3 h4 => h2 t h3 (by omega)), h2 n (by omega) (by omega)]
      grind
theorem crd_nn : ∀ n, n ≤ 1000 → 0 ≤ (crdP P c n).toInt ∧ (crdP P c n).toInt ≤ (n : Int) := by
  intro n
  induction n with
  | zero => intro _; exact (by decide : 0 ≤ (0 : Int32).toInt ∧ (0 : Int32).toInt ≤ ((0 : Nat) : Int))
  | succ n ih =>
    intro hn
    obtain ⟨h1, h2⟩ := ih (by omega)
    have t1 : (1 : Int32).toInt = 1 := rfl
    have t0 : (0 : Int32).toInt = 0 := rfl
    show 0 ≤ (crdP P c n + _).toInt ∧ (crdP P c n + _).toInt ≤ _
    split
    · rw [i32_add (by omega) (by omega)]
      omega
    · rw [i32_add (by omega) (by omega)]
      omega
/-- somebody is there -/
theorem crd_pos : ∀ n, n ≤ 1000 → (0 < crdP P c n ↔ ∃ t, t < n ∧ P (158 + 6 * t) = c) := by
  intro n
  induction n with
  | zero => intro _; exact ⟨fun h => absurd h (show ¬ (0 : Int32) < 0 by decide), fun ⟨t, h, _⟩ => absurd h (Nat.not_lt_zero t)⟩
  | succ n ih =>
    intro hn
    have h1 := crd_nn (P := P) (c := c) n (by omega)
    have t1 : (1 : Int32).toInt = 1 := rfl
    have t0 : (0 : Int32).toInt = 0 := rfl
    have ih := ih (by omega)
    rw [Int32.lt_iff_toInt_lt, t0] at ih
    show 0 < crdP P c n + _ ↔ _
    rw [Int32.lt_iff_toInt_lt, t0]
    by_cases hp : P (158 + 6 * n) = c
    · rw [if_pos hp, i32_add (by omega) (by omega)]
      exact ⟨fun _ => ⟨n, by omega, hp⟩, fun _ => by omega⟩
    · rw [if_neg hp, i32_add (by omega) (by omega), t0, Int.add_zero, ih]
      constructor
      · rintro ⟨t, h2, h3⟩
        exact ⟨t, by omega, h3⟩
      · rintro ⟨t, h2, h3⟩
        refine ⟨t, ?_, h3⟩
        have : t ≠ n := fun q => hp (q ▸ h3)
        omega
/-! where a walker goes -/
theorem to_rng {here goal : Int32} : ∀ (n : Nat) (d : Int32), 0 ≤ d.toInt → d.toInt + (n : Int) = 8 → toP P here goal n d = -1 ∨ (0 ≤ (toP P here goal n d).toInt ∧ (toP P here goal n d).toInt < 8 ∧ besP P here (toP P here goal n d) = goal) := by
  intro n
  induction n with
  | zero => intro d _ _; exact Or.inl rfl
  | succ n ih =>
    intro d h0 h1
    unfold toP
    split
    · rename_i h
      exact Or.inr ⟨h0, by omega, h⟩
    · exact ih (d + 1) (by rw [i32_p1 (by omega)]; omega) (by rw [i32_p1 (by omega)]; omega)
theorem bst_rng {w : WC} : ∀ (n : Nat) (d b le : Int32), 0 ≤ d.toInt → d.toInt + (n : Int) = 8 → (b = -1 ∨ (0 ≤ b.toInt ∧ b.toInt < 8 ∧ ¬ besP P w.1 b < 0)) → bstP g P q w n d b le = -1 ∨ (0 ≤ (bstP g P q w n d b le).toInt ∧ (bstP g P q w n d b le).toInt < 8 ∧ ¬ besP P w.1 (bstP g P q w n d b le) < 0) := by
  intro n
  induction n with
  | zero => intro d b le _ _ hb; exact hb
  | succ n ih =>
    intro d b le h0 h1 hb
    have d1 : (d + 1).toInt = d.toInt + 1 := i32_p1 (by omega)
    unfold bstP
    split
    · exact ih (d + 1) b le (by omega) (by omega) hb
    · rename_i h
      refine ih (d + 1) d _ (by omega) (by omega) (Or.inr ⟨h0, by omega, fun q => h (Or.inl ?_)⟩)
      unfold badB
      rw [decide_eq_true q, Bool.true_or]
theorem cho_rng {w : WC} (hg : 0 ≤ w.2.1.toInt) : choP g P q w = -1 ∨ (0 ≤ (choP g P q w).toInt ∧ (choP g P q w).toInt < 8 ∧ ¬ besP P w.1 (choP g P q w) < 0) := by
  unfold choP
  split
  · exact bst_rng 8 0 (-1) 0 (by decide) (by decide) (Or.inl rfl)
  · rename_i h
    rcases to_rng (P := P) (here := w.1) (goal := w.2.1) 8 0 (by decide) (by decide) with e | ⟨e1, e2, e3⟩
    · rw [e] at h
      exact absurd (by decide) h
    · exact Or.inr ⟨e1, e2, by rw [e3, i32_z]; omega⟩
end KEE
/-! THE GAME'S CALLS, in themselves -/
noncomputable def hdP (P : PK) (c : Int32) : Nat → Nat → Bool
  | 0, _ => false
  | n + 1, k => if P (3 + k) = c then true else hdP P c n (k + 1)
/-- a DOOR is there -/
noncomputable def hasP (P : PK) (c : Int32) : Bool := hdP P c (P 2).toInt.toNat 0
noncomputable def wkrP (P : PK) (c : Int32) : Nat → Nat → Bool
  | 0, _ => false
  | n + 1, k => if P (158 + 6 * k) = c then true else wkrP P c n (k + 1)
/-- a WALKER is there -/
noncomputable def wthP (P : PK) (c : Int32) : Bool := wkrP P c (P 157).toInt.toNat 0
def inX (x lo hi : Int32) : Prop := lo.toInt ≤ x.toInt ∧ x.toInt ≤ hi.toInt
def inD (P : PK) (d : Int32) : Prop := 0 ≤ d.toInt ∧ d.toInt < (P 2).toInt
def dorN (P : PK) (c : Int32) : Prop := P 2 = 9 ∨ ¬ inC P c ∨ opnB P c = false ∨ hasP P c = true
noncomputable def dorP (P : PK) (c : Int32) : PK := uPk (uPk P (3 + (P 2).toInt.toNat) c) 2 (P 2 + 1)
def wisN (P : PK) (a b h ev fi : Int32) : Prop := P 12 = 24 ∨ ¬ inD P a ∨ ¬ inD P b ∨ a = b ∨ ¬ inX h 0 5 ∨ ¬ inX ev 1 200 ∨ ¬ inX fi 0 60000
noncomputable def wiQ (P : PK) (k : Nat) (a b h ev fi : Int32) : PK := uPk (uPk (uPk (uPk (uPk (uPk P (13 + 6 * k) a) (13 + 6 * k + 1) b) (13 + 6 * k + 2) h) (13 + 6 * k + 3) ev) (13 + 6 * k + 4) fi) (13 + 6 * k + 5) 1
noncomputable def wisP (P : PK) (a b h ev fi : Int32) : PK := uPk (wiQ P (P 12).toInt.toNat a b h ev fi) 12 (P 12 + 1)
/-- a WISH that is -/
def isW (P : PK) (k : Int32) : Prop := (0 ≤ k.toInt ∧ k.toInt < (P 12).toInt) ∧ P (13 + 6 * k.toInt.toNat + 5) = 1
noncomputable def drpP (P : PK) (k : Int32) : PK := uPk P (13 + 6 * k.toInt.toNat + 5) 0
/-- rain on a CELL, on n CELLS -/
noncomputable def ra1P (P : PK) (x c : Int32) : PK := if cE P 0 c < 3 then uPk P (cX 4 c) (if cE P 4 c + x < 200 then cE P 4 c + x else 200) else P
noncomputable def raiP (x : Int32) : Nat → Int32 → PK → PK
  | 0, _, P => P
  | n + 1, c, P => raiP x n (c + 1) (ra1P P x c)
def layN (P : PK) (c k : Int32) : Prop := ¬ inC P c ∨ ¬ inX k 0 6 ∨ ((k = 3 ∨ k = 6) ∧ (hasP P c = true ∨ wthP P c = true))
noncomputable def layP (P : PK) (c k : Int32) : PK := if k = 0 ∨ k = 2 then uPk P (cX 0 c) k else uPk (uPk P (cX 0 c) k) (cX 3 c) 0
/-- what run answers, and how it leaves THE PARK -/
def runN (P : PK) (t : Int32) : Prop := ¬ inX t 1 400 ∨ 60000 < (P 518).toInt + t.toInt
noncomputable def runP (T : TS) (P : PK) (t : Int32) : PK := (tksP T t.toInt.toNat (P, [])).1
section GAM
variable {P P' : PK} {c c' d k x a b h ev fi : Int32} {B n i j : Nat}
theorem okD.dor (hD : okD P) (h9 : ¬ P 2 = 9) (hc : inC P c) : okD (dorP P c) ∧ (∀ j, 12 ≤ j → dorP P c j = P j) ∧ dorP P c 0 = P 0 ∧ dorP P c 1 = P 1 := by
  obtain ⟨h1, ⟨h2, h3, h4⟩, h5, h6, h7⟩ := hD
  have t9 : (9 : Int32).toInt = 9 := rfl
  have n9 : (P 2).toInt ≠ 9 := fun q => h9 (Int32.toInt_inj.mp (q.trans t9.symm))
  obtain ⟨m, em⟩ : ∃ m, m = (P 2).toInt.toNat := ⟨_, rfl⟩
  obtain ⟨Q, eQ⟩ : ∃ Q, Q = dorP P c := ⟨_, rfl⟩
  rw [← eQ]
  unfold dorP at eQ
  rw [← em] at eQ
  have q2 : Q 2 = P 2 + 1 := by rw [eQ]; exact up_eq
  have q2i : (Q 2).toInt = (P 2).toInt + 1 := by rw [q2]; exact i32_p1 (by omega)
  have qn : Q (3 + m) = c := by rw [eQ, up_ne (by omega)]; exact up_eq
  have qo : ∀ j, j ≠ 2 → j ≠ 3 + m → Q j = P j := fun j j1 j2 => by rw [eQ, up_ne j1, up_ne j2]
  have e0 := qo 0 (by decide) (by omega)
  have e1 := qo 1 (by decide) (by omega)
  have hi : ∀ j, 12 ≤ j → Q j = P j := fun j hj => qo j (by omega) (by omega)
  refine ⟨⟨h1.eq e0 e1, ⟨by omega, by omega, fun d hd => ?_⟩, by rw [hi 12 (by decide)]; exact h5, by rw [hi 12 (by decide)]; exact h6, fun k hk => ?_⟩, hi, e0, e1⟩
  · rw [inC.eq e0 e1]
    by_cases hdm : d = m
    · rw [hdm, qn]; exact hc
    · rw [qo _ (by omega) (by omega)]
      exact h4 d (by omega)
  · rw [hi 12 (by decide)] at hk
    rw [hi (13 + 6 * k) (by omega), hi (13 + 6 * k + 1) (by omega), hi (13 + 6 * k + 2) (by omega), hi (13 + 6 * k + 3) (by omega), hi (13 + 6 * k + 5) (by omega)]
    obtain ⟨u1, u2, u3, u4⟩ := h7 k hk
    exact ⟨⟨u1.1, by omega⟩, ⟨u2.1, by omega⟩, u3, u4⟩
theorem wiQ_o {k : Nat} (hj : j < 13 + 6 * k ∨ 13 + 6 * k + 6 ≤ j) : wiQ P k a b h ev fi j = P j := by
  unfold wiQ
  rw [up_ne (by omega), up_ne (by omega), up_ne (by omega), up_ne (by omega), up_ne (by omega), up_ne (by omega)]
theorem wiQ_i {k : Nat} : wiQ P k a b h ev fi (13 + 6 * k) = a ∧ wiQ P k a b h ev fi (13 + 6 * k + 1) = b ∧ wiQ P k a b h ev fi (13 + 6 * k + 2) = h ∧ wiQ P k a b h ev fi (13 + 6 * k + 3) = ev ∧ wiQ P k a b h ev fi (13 + 6 * k + 4) = fi ∧ wiQ P k a b h ev fi (13 + 6 * k + 5) = 1 := by
  unfold wiQ
  refine ⟨?_, ?_, ?_, ?_, ?_, up_eq⟩
  · rw [up_ne (by omega), up_ne (by omega), up_ne (by omega), up_ne (by omega), up_ne (by omega)]; exact up_eq
  · rw [up_ne (by omega), up_ne (by omega), up_ne (by omega), up_ne (by omega)]; exact up_eq
  · rw [up_ne (by omega), up_ne (by omega), up_ne (by omega)]; exact up_eq
  · rw [up_ne (by omega), up_ne (by omega)]; exact up_eq
  · rw [up_ne (by omega)]; exact up_eq
theorem okD.wis (hD : okD P) (h24 : ¬ P 12 = 24) (ha : inD P a) (hb : inD P b) (hh : inX h 0 5) (he : inX ev 1 200) : okD (wisP P a b h ev fi) ∧ (∀ j, 157 ≤ j → wisP P a b h ev fi j = P j) ∧ wisP P a b h ev fi 12 = P 12 + 1 ∧ (∀ j, j < 12 → wisP P a b h ev fi j = P j) := by
  obtain ⟨h1, ⟨h2, h3, h4⟩, h5, h6, h7⟩ := hD
  have t24 : (24 : Int32).toInt = 24 := rfl
  have n24 : (P 12).toInt ≠ 24 := fun q => h24 (Int32.toInt_inj.mp (q.trans t24.symm))
  obtain ⟨m, em⟩ : ∃ m, m = (P 12).toInt.toNat := ⟨_, rfl⟩
  obtain ⟨Q, eQ⟩ : ∃ Q, Q = wisP P a b h ev fi := ⟨_, rfl⟩
  rw [← eQ]
  unfold wisP at eQ
  rw [← em] at eQ
  have q12 : Q 12 = P 12 + 1 := by rw [eQ]; exact up_eq
  have q12i : (Q 12).toInt = (P 12).toInt + 1 := by rw [q12]; exact i32_p1 (by omega)
  have qo : ∀ j, j ≠ 12 → (j < 13 + 6 * m ∨ 13 + 6 * m + 6 ≤ j) → Q j = P j := fun j j1 j2 => by rw [eQ, up_ne j1]; exact wiQ_o j2
  have qi : ∀ j, j ≠ 12 → Q j = wiQ P m a b h ev fi j := fun j j1 => by rw [eQ, up_ne j1]
  obtain ⟨i0, i1, i2, i3, i4, i5⟩ := wiQ_i (P := P) (k := m) (a := a) (b := b) (h := h) (ev := ev) (fi := fi)
  have lo : ∀ j, j < 12 → Q j = P j := fun j hj => qo j (by omega) (by omega)
  have e0 := lo 0 (by decide)
  have e1 := lo 1 (by decide)
  have t0 : (0 : Int32).toInt = 0 := rfl
  have t5 : (5 : Int32).toInt = 5 := rfl
  have t1 : (1 : Int32).toInt = 1 := rfl
  unfold inX at hh he
  refine ⟨⟨h1.eq e0 e1, ⟨by rw [lo 2 (by decide)]; exact h2, by rw [lo 2 (by decide)]; exact h3, fun d hd => ?_⟩, by omega, by omega, fun k hk => ?_⟩, fun j hj => qo j (by omega) (by omega), q12, lo⟩
  · rw [lo 2 (by decide)] at hd
    rw [inC.eq e0 e1, lo _ (by omega)]
    exact h4 d hd
  · rw [lo 2 (by decide)]
    by_cases hkm : k = m
    · rw [hkm, qi _ (by omega), qi _ (by omega), qi _ (by omega), qi _ (by omega), qi _ (by omega), i0, i1, i2, i3, i5]
      exact ⟨ha, hb, ⟨by omega, by omega⟩, by omega, Or.inr rfl⟩
    · rw [qo _ (by omega) (by omega), qo _ (by omega) (by omega), qo _ (by omega) (by omega), qo _ (by omega) (by omega), qo _ (by omega) (by omega)]
      exact h7 k (by omega)
theorem okK.wis (hK : okK P) (h0 : P' 0 = P 0) (h1 : P' 1 = P 1) (h12 : (P 12).toInt ≤ (P' 12).toInt) (hs : ∀ j, 157 ≤ j → P' j = P j) : okK P' := by
  obtain ⟨a1, a2, a3⟩ := hK
  refine ⟨by rw [hs 157 (by decide)]; exact a1, by rw [hs 157 (by decide)]; exact a2, fun k hk => ?_⟩
  rw [hs 157 (by decide)] at hk
  obtain ⟨b1, b2, b3, b4⟩ := a3 k hk
  rw [inC.eq h0 h1, hs (158 + 6 * k) (by omega), hs (158 + 6 * k + 1) (by omega), hs (158 + 6 * k + 3) (by omega)]
  exact ⟨b1, b2, by omega, b4⟩
theorem okD.drp (hD : okD P) (hk : 0 ≤ k.toInt ∧ k.toInt < (P 12).toInt) : okD (drpP P k) ∧ ∀ j, j ≠ 13 + 6 * k.toInt.toNat + 5 → drpP P k j = P j := by
  obtain ⟨h1, ⟨h2, h3, h4⟩, h5, h6, h7⟩ := hD
  have qo : ∀ j, j ≠ 13 + 6 * k.toInt.toNat + 5 → drpP P k j = P j := fun j hj => up_ne hj
  have e0 := qo 0 (by omega)
  have e1 := qo 1 (by omega)
  refine ⟨⟨h1.eq e0 e1, ⟨by rw [qo 2 (by omega)]; exact h2, by rw [qo 2 (by omega)]; exact h3, fun d hd => ?_⟩, by rw [qo 12 (by omega)]; exact h5, by rw [qo 12 (by omega)]; exact h6, fun i hi => ?_⟩, qo⟩
  · rw [qo 2 (by omega)] at hd
    rw [inC.eq e0 e1, qo _ (by omega)]
    exact h4 d hd
  · rw [qo 12 (by omega)] at hi
    rw [qo 2 (by omega), qo _ (by omega), qo _ (by omega), qo _ (by omega), qo _ (by omega)]
    obtain ⟨u1, u2, u3, u4, u5⟩ := h7 i hi
    refine ⟨u1, u2, u3, u4, ?_⟩
    by_cases hik : i = k.toInt.toNat
    · rw [hik]
      exact Or.inl up_eq
    · rw [qo _ (by omega)]
      exact u5
/-- nothing below the cells changes -/
def hiS (P P' : PK) : Prop := ∀ j, j < 522 → P' j = P j
theorem hiS.D (hs : hiS P P') (h : okD P) : okD P' := h.sb (fun j hj => hs j (by omega))
theorem hiS.K (hs : hiS P P') (h : okK P) : okK P' := by
  obtain ⟨a1, a2, a3⟩ := h
  have e := hs 157 (by decide)
  refine ⟨by rw [e]; exact a1, by rw [e]; exact a2, fun k hk => ?_⟩
  rw [e] at hk
  rw [inC.eq (hs 0 (by decide)) (hs 1 (by decide)), hs (158 + 6 * k) (by omega), hs (158 + 6 * k + 1) (by omega), hs (158 + 6 * k + 3) (by omega), hs 12 (by decide)]
  exact a3 k hk
theorem ra1_hi : hiS P (ra1P P x c) := fun j hj => by
  unfold ra1P
  split
  · exact up_ne (by have := cX_ge (f := 4) (c := c); omega)
  · rfl
theorem okE.ra1 (hE : okE B P) (hc : inC P c) (hx : inX x 1 200) : okE B (ra1P P x c) := fun c' hc' => by
  unfold ra1P at hc' ⊢
  split
  · rename_i h3
    rw [if_pos h3] at hc'
    have hc2 : inC P c' := hc'
    have e : ∀ f, f < 7 → cE (uPk P (cX 4 c) (if cE P 4 c + x < 200 then cE P 4 c + x else 200)) f c' = if f = 4 ∧ c' = c then (if cE P 4 c + x < 200 then cE P 4 c + x else 200) else cE P f c' := fun f hf => cE_up (by decide) hf hc.1 hc2.1
    obtain ⟨a1, a2, a3, a4, a5, a6⟩ := hE c' hc2
    have nf : ∀ f g : Nat, f ≠ g → ¬ (f = g ∧ c' = c) := fun f g hfg q => hfg q.1
    unfold okC1
    rw [e 0 (by decide), e 2 (by decide), e 3 (by decide), e 4 (by decide), e 5 (by decide), e 6 (by decide), if_neg (nf 0 4 (by decide)), if_neg (nf 2 4 (by decide)), if_neg (nf 3 4 (by decide)), if_neg (nf 5 4 (by decide)), if_neg (nf 6 4 (by decide))]
    refine ⟨a1, a2, a3, ?_, a5, a6⟩
    have t200 : (200 : Int32).toInt = 200 := rfl
    have t1 : (1 : Int32).toInt = 1 := rfl
    unfold inX at hx
    split
    · rename_i hq
      rw [hq.2] at a4
      have ea : (cE P 4 c + x).toInt = (cE P 4 c).toInt + x.toInt := i32_add (by omega) (by omega)
      split
      · rename_i hl
        have := Int32.lt_iff_toInt_lt.mp hl
        omega
      · omega
    · exact a4
  · rename_i h3
    rw [if_neg h3] at hc'
    exact hE c' hc'
theorem inC.hi (hs : hiS P P') : inC P' c ↔ inC P c := inC.eq (hs 0 (by decide)) (hs 1 (by decide))
theorem lay_hi : hiS P (layP P c k) := fun j hj => by
  have c0 := cX_ge (f := 0) (c := c)
  have c3 := cX_ge (f := 3) (c := c)
  unfold layP
  split
  · exact up_ne (by omega)
  · rw [up_ne (by omega)]
    exact up_ne (by omega)
theorem okE.lay (hE : okE B P) (hc : inC P c) (hk : inX k 0 6) : okE B (layP P c k) := fun c' hc' => by
  have hc2 : inC P c' := (inC.hi lay_hi).mp hc'
  obtain ⟨a1, a2, a3, a4, a5, a6⟩ := hE c' hc2
  have e : ∀ f, f < 7 → cE (uPk P (cX 0 c) k) f c' = if f = 0 ∧ c' = c then k else cE P f c' := fun f hf => cE_up (by decide) hf hc.1 hc2.1
  have e3 : ∀ f, f < 7 → cE (uPk (uPk P (cX 0 c) k) (cX 3 c) 0) f c' = if f = 3 ∧ c' = c then 0 else cE (uPk P (cX 0 c) k) f c' := fun f hf => cE_up (by decide) hf hc.1 hc2.1
  have t0 : (0 : Int32).toInt = 0 := rfl
  have t6 : (6 : Int32).toInt = 6 := rfl
  unfold inX at hk
  have k0 : 0 ≤ (if 0 = 0 ∧ c' = c then k else cE P 0 c').toInt ∧ (if 0 = 0 ∧ c' = c then k else cE P 0 c').toInt ≤ 6 := by
    split
    · omega
    · exact a1
  have nf : ∀ f g : Nat, f ≠ g → ¬ (f = g ∧ c' = c) := fun f g hfg q => hfg q.1
  unfold layP okC1
  split
  · rw [e 0 (by decide), e 2 (by decide), e 3 (by decide), e 4 (by decide), e 5 (by decide), e 6 (by decide), if_neg (nf 2 0 (by decide)), if_neg (nf 3 0 (by decide)), if_neg (nf 4 0 (by decide)), if_neg (nf 5 0 (by decide)), if_neg (nf 6 0 (by decide))]
    exact ⟨k0, a2, a3, a4, a5, a6⟩
  · rw [e3 0 (by decide), e3 2 (by decide), e3 3 (by decide), e3 4 (by decide), e3 5 (by decide), e3 6 (by decide), e 0 (by decide), e 2 (by decide), e 3 (by decide), e 4 (by decide), e 5 (by decide), e 6 (by decide), if_neg (nf 2 0 (by decide)), if_neg (nf 3 0 (by decide)), if_neg (nf 4 0 (by decide)), if_neg (nf 5 0 (by decide)), if_neg (nf 6 0 (by decide)), if_neg (nf 0 3 (by decide)), if_neg (nf 2 3 (by decide)), if_neg (nf 4 3 (by decide)), if_neg (nf 5 3 (by decide)), if_neg (nf 6 3 (by decide))]
    refine ⟨k0, a2, ?_, a4, a5, a6⟩
    split
    · rw [t0]; omega
    · exact a3
theorem wkr_iff : ∀ n k, wkrP P c n k = true ↔ ∃ t, k ≤ t ∧ t < k + n ∧ P (158 + 6 * t) = c := by
  intro n
  induction n with
  | zero =>
    intro k
    exact ⟨fun q => (by cases q), fun ⟨t, h1, h2, _⟩ => (by omega)⟩
  | succ n ih =>
    intro k
    unfold wkrP
    by_cases hk : P (158 + 6 * k) = c
    · rw [if_pos hk]
      exact ⟨fun _ => ⟨k, Nat.le_refl _, by omega, hk⟩, fun _ => rfl⟩
    · rw [if_neg hk, ih]
      constructor
      · rintro ⟨t, h1, h2, h3⟩
        exact ⟨t, by omega, by omega, h3⟩
      · rintro ⟨t, h1, h2, h3⟩
        by_cases htk : t = k
        · rw [htk] at h3
          exact absurd h3 hk
        · exact ⟨t, by omega, by omega, h3⟩
/-- the crowd knows whether a WALKER is there -/
theorem wth_crd (h60 : (P 157).toInt ≤ 60) : 0 < crdP P c (P 157).toInt.toNat ↔ wthP P c = true := by
  unfold wthP
  rw [crd_pos _ (by omega), wkr_iff]
  constructor
  · rintro ⟨t, h1, h2⟩
    exact ⟨t, Nat.zero_le _, by omega, h2⟩
  · rintro ⟨t, _, h1, h2⟩
    exact ⟨t, by omega, h2⟩
end GAM
/-! THE CLASS'S holds: pieces (made by gwal.py) -/
theorem hs0_0 {e : Nat} {M M' : Mem} {v : Option Value} {c : Int32} (hS : SQ M) (H : Ev none e 71 0 [some (.ref 104), some (.int 0), some (.int c)] [] M v M' 0 0) : (0 ≤ c.toInt ∧ c.toInt < 256) ∧ v = some (.int (rI M (fR M 104 7 + 1) c)) ∧ M' = M := by
  have H : Ev none e 71 45 [some (.ref 104), some (.int 0), some (.int c)] [.ref 104] M v M' 0 0 := Ev.back 3 (fun n => rfl) H
  have H : Ev none e 71 48 [some (.ref 104), some (.int 0), some (.int c)] [.ref (fR M 104 7)] M v M' 0 0 := Ev.back 1 (gs_3 rfl rfl (gf_r hS.1 qa_104 qr_22_7 rfl)) H
  have H : Ev none e 71 51 [some (.ref 104), some (.int 0), some (.int c)] [.ref (fR M 104 7 + 1)] M v M' 0 0 := Ev.back 1 (gs_3 rfl rfl (gf_x hS.1 (hS.1.fr qa_104 qr_22_7).2 qo_8 (fx_l2 hS (hS.1.fr qa_104 qr_22_7).2) rfl)) H
  have H : Ev none e 71 52 [some (.ref 104), some (.int 0), some (.int c)] [.int c, .ref (fR M 104 7 + 1)] M v M' 0 0 := Ev.back 1 (fun n => rfl) H
  obtain ⟨b1, H⟩ := Ev.ial rfl rfl hS.1 (fx_h2 (hS.1.fr qa_104 qr_22_7).2) qw_9 H
  have H : Ev none e 71 53 [some (.ref 104), some (.int 0), some (.int c)] [.int (rI M (fR M 104 7 + 1) c)] M v M' 0 0 := H
  obtain ⟨z1, z2⟩ := Ev.retz rfl rfl H
  exact ⟨b1, z1, z2⟩
theorem hs1_0 {e : Nat} {M M' : Mem} {v : Option Value} {c : Int32} (hS : SQ M) (H : Ev none e 71 0 [some (.ref 104), some (.int 1), some (.int c)] [] M v M' 0 0) : (0 ≤ c.toInt ∧ c.toInt < 256) ∧ v = some (.int (rI M (fR M 104 7 + 2) c)) ∧ M' = M := by
  have H : Ev none e 71 55 [some (.ref 104), some (.int 1), some (.int c)] [.ref 104] M v M' 0 0 := Ev.back 3 (fun n => rfl) H
  have H : Ev none e 71 58 [some (.ref 104), some (.int 1), some (.int c)] [.ref (fR M 104 7)] M v M' 0 0 := Ev.back 1 (gs_3 rfl rfl (gf_r hS.1 qa_104 qr_22_7 rfl)) H
  have H : Ev none e 71 61 [some (.ref 104), some (.int 1), some (.int c)] [.ref (fR M 104 7 + 2)] M v M' 0 0 := Ev.back 1 (gs_3 rfl rfl (gf_x hS.1 (hS.1.fr qa_104 qr_22_7).2 qo_8 (fx_l3 hS (hS.1.fr qa_104 qr_22_7).2) rfl)) H
  have H : Ev none e 71 62 [some (.ref 104), some (.int 1), some (.int c)] [.int c, .ref (fR M 104 7 + 2)] M v M' 0 0 := Ev.back 1 (fun n => rfl) H
  obtain ⟨b1, H⟩ := Ev.ial rfl rfl hS.1 (fx_h3 (hS.1.fr qa_104 qr_22_7).2) qw_10 H
  have H : Ev none e 71 63 [some (.ref 104), some (.int 1), some (.int c)] [.int (rI M (fR M 104 7 + 2) c)] M v M' 0 0 := H
  obtain ⟨z1, z2⟩ := Ev.retz rfl rfl H
  exact ⟨b1, z1, z2⟩
theorem hs2_0 {e : Nat} {M M' : Mem} {v : Option Value} {c : Int32} (hS : SQ M) (H : Ev none e 71 0 [some (.ref 104), some (.int 2), some (.int c)] [] M v M' 0 0) : ((rI M (fR M 104 7 + 4) c) < (zI M (fR M 104 2) 10) ∧ (0 ≤ c.toInt ∧ c.toInt < 256) ∧ v = some (.int 0) ∧ M' = M) ∨ (¬ ((rI M (fR M 104 7 + 4) c) < (zI M (fR M 104 2) 10)) ∧ (rI M (fR M 104 7 + 5) c) < (zI M (fR M 104 2) 11) ∧ (0 ≤ c.toInt ∧ c.toInt < 256) ∧ (0 ≤ c.toInt ∧ c.toInt < 256) ∧ v = some (.int 0) ∧ M' = M) ∨ (¬ ((rI M (fR M 104 7 + 4) c) < (zI M (fR M 104 2) 10)) ∧ ¬ ((rI M (fR M 104 7 + 5) c) < (zI M (fR M 104 2) 11)) ∧ (0 ≤ c.toInt ∧ c.toInt < 256) ∧ (0 ≤ c.toInt ∧ c.toInt < 256) ∧ v = some (.int 1) ∧ M' = M) := by
  have H : Ev none e 71 65 [some (.ref 104), some (.int 2), some (.int c)] [.ref 104] M v M' 0 0 := Ev.back 3 (fun n => rfl) H
  have H : Ev none e 71 68 [some (.ref 104), some (.int 2), some (.int c)] [.ref (fR M 104 7)] M v M' 0 0 := Ev.back 1 (gs_3 rfl rfl (gf_r hS.1 qa_104 qr_22_7 rfl)) H
  have H : Ev none e 71 71 [some (.ref 104), some (.int 2), some (.int c)] [.ref (fR M 104 7 + 4)] M v M' 0 0 := Ev.back 1 (gs_3 rfl rfl (gf_x hS.1 (hS.1.fr qa_104 qr_22_7).2 qo_8 (fx_l5 hS (hS.1.fr qa_104 qr_22_7).2) rfl)) H
  have H : Ev none e 71 72 [some (.ref 104), some (.int 2), some (.int c)] [.int c, .ref (fR M 104 7 + 4)] M v M' 0 0 := Ev.back 1 (fun n => rfl) H
  obtain ⟨b1, H⟩ := Ev.ial rfl rfl hS.1 (fx_h5 (hS.1.fr qa_104 qr_22_7).2) qw_12 H
  have H : Ev none e 71 73 [some (.ref 104), some (.int 2), some (.int c)] [.int (rI M (fR M 104 7 + 4) c)] M v M' 0 0 := H
  have H : Ev none e 71 74 [some (.ref 104), some (.int 2), some (.int c)] [.ref 104, .int (rI M (fR M 104 7 + 4) c)] M v M' 0 0 := Ev.back 1 (fun n => rfl) H
  have H : Ev none e 71 77 [some (.ref 104), some (.int 2), some (.int c)] [.ref (fR M 104 2), .int (rI M (fR M 104 7 + 4) c)] M v M' 0 0 := Ev.back 1 (gs_3 rfl rfl (gf_r hS.1 qa_104 qr_22_2 rfl)) H
  have H : Ev none e 71 80 [some (.ref 104), some (.int 2), some (.int c)] [.int (zI M (fR M 104 2) 10), .int (rI M (fR M 104 7 + 4) c)] M v M' 0 0 := Ev.back 1 (gs_3 rfl rfl (gf_i hS.1 (hS.1.fr qa_104 qr_22_2).2 qi_28_10 rfl)) H
  have H : Ev none e 71 (if (rI M (fR M 104 7 + 4) c) < (zI M (fR M 104 2) 10) then 106 else 83) [some (.ref 104), some (.int 2), some (.int c)] [] M v M' 0 0 := Ev.back 1 (fun n => rfl) H
  by_cases h2 : (rI M (fR M 104 7 + 4) c) < (zI M (fR M 104 2) 10)
  · rw [if_pos h2] at H
    have H : Ev none e 71 107 [some (.ref 104), some (.int 2), some (.int c)] [.int 0] M v M' 0 0 := Ev.back 1 (fun n => rfl) H
    obtain ⟨z1, z2⟩ := Ev.retz rfl rfl H
    exact Or.inl ⟨h2, b1, z1, z2⟩
  · rw [if_neg h2] at H
    have H : Ev none e 71 84 [some (.ref 104), some (.int 2), some (.int c)] [.ref 104] M v M' 0 0 := Ev.back 1 (fun n => rfl) H
    have H : Ev none e 71 87 [some (.ref 104), some (.int 2), some (.int c)] [.ref (fR M 104 7)] M v M' 0 0 := Ev.back 1 (gs_3 rfl rfl (gf_r hS.1 qa_104 qr_22_7 rfl)) H
    have H : Ev none e 71 90 [some (.ref 104), some (.int 2), some (.int c)] [.ref (fR M 104 7 + 5)] M v M' 0 0 := Ev.back 1 (gs_3 rfl rfl (gf_x hS.1 (hS.1.fr qa_104 qr_22_7).2 qo_8 (fx_l6 hS (hS.1.fr qa_104 qr_22_7).2) rfl)) H
    have H : Ev none e 71 91 [some (.ref 104), some (.int 2), some (.int c)] [.int c, .ref (fR M 104 7 + 5)] M v M' 0 0 := Ev.back 1 (fun n => rfl) H
    obtain ⟨b3, H⟩ := Ev.ial rfl rfl hS.1 (fx_h6 (hS.1.fr qa_104 qr_22_7).2) qw_13 H
    have H : Ev none e 71 92 [some (.ref 104), some (.int 2), some (.int c)] [.int (rI M (fR M 104 7 + 5) c)] M v M' 0 0 := H
    have H : Ev none e 71 93 [some (.ref 104), some (.int 2), some (.int c)] [.ref 104, .int (rI M (fR M 104 7 + 5) c)] M v M' 0 0 := Ev.back 1 (fun n => rfl) H
    have H : Ev none e 71 96 [some (.ref 104), some (.int 2), some (.int c)] [.ref (fR M 104 2), .int (rI M (fR M 104 7 + 5) c)] M v M' 0 0 := Ev.back 1 (gs_3 rfl rfl (gf_r hS.1 qa_104 qr_22_2 rfl)) H
    have H : Ev none e 71 99 [some (.ref 104), some (.int 2), some (.int c)] [.int (zI M (fR M 104 2) 11), .int (rI M (fR M 104 7 + 5) c)] M v M' 0 0 := Ev.back 1 (gs_3 rfl rfl (gf_i hS.1 (hS.1.fr qa_104 qr_22_2).2 qi_28_11 rfl)) H
    have H : Ev none e 71 (if (rI M (fR M 104 7 + 5) c) < (zI M (fR M 104 2) 11) then 106 else 102) [some (.ref 104), some (.int 2), some (.int c)] [] M v M' 0 0 := Ev.back 1 (fun n => rfl) H
    by_cases h4 : (rI M (fR M 104 7 + 5) c) < (zI M (fR M 104 2) 11)
    · rw [if_pos h4] at H
      have H : Ev none e 71 107 [some (.ref 104), some (.int 2), some (.int c)] [.int 0] M v M' 0 0 := Ev.back 1 (fun n => rfl) H
      obtain ⟨z1, z2⟩ := Ev.retz rfl rfl H
      exact Or.inr (Or.inl ⟨h2, h4, b1, b3, z1, z2⟩)
    · rw [if_neg h4] at H
      have H : Ev none e 71 107 [some (.ref 104), some (.int 2), some (.int c)] [.int 1] M v M' 0 0 := Ev.back 2 (fun n => rfl) H
      obtain ⟨z1, z2⟩ := Ev.retz rfl rfl H
      exact Or.inr (Or.inr (⟨h2, h4, b1, b3, z1, z2⟩))
theorem hs3_0 {e : Nat} {M M' : Mem} {v : Option Value} {c : Int32} (hS : SQ M) (H : Ev none e 71 0 [some (.ref 104), some (.int 3), some (.int c)] [] M v M' 0 0) : ((rI M (fR M 104 7 + 4) c) < (zI M (fR M 104 2) 10) ∧ (0 ≤ c.toInt ∧ c.toInt < 256) ∧ v = some (.int 0) ∧ M' = M) ∨ (¬ ((rI M (fR M 104 7 + 4) c) < (zI M (fR M 104 2) 10)) ∧ (0 ≤ c.toInt ∧ c.toInt < 256) ∧ v = some (.int 1) ∧ M' = M) := by
  have H : Ev none e 71 109 [some (.ref 104), some (.int 3), some (.int c)] [.ref 104] M v M' 0 0 := Ev.back 3 (fun n => rfl) H
  have H : Ev none e 71 112 [some (.ref 104), some (.int 3), some (.int c)] [.ref (fR M 104 7)] M v M' 0 0 := Ev.back 1 (gs_3 rfl rfl (gf_r hS.1 qa_104 qr_22_7 rfl)) H
  have H : Ev none e 71 115 [some (.ref 104), some (.int 3), some (.int c)] [.ref (fR M 104 7 + 4)] M v M' 0 0 := Ev.back 1 (gs_3 rfl rfl (gf_x hS.1 (hS.1.fr qa_104 qr_22_7).2 qo_8 (fx_l5 hS (hS.1.fr qa_104 qr_22_7).2) rfl)) H
  have H : Ev none e 71 116 [some (.ref 104), some (.int 3), some (.int c)] [.int c, .ref (fR M 104 7 + 4)] M v M' 0 0 := Ev.back 1 (fun n => rfl) H
  obtain ⟨b1, H⟩ := Ev.ial rfl rfl hS.1 (fx_h5 (hS.1.fr qa_104 qr_22_7).2) qw_12 H
  have H : Ev none e 71 117 [some (.ref 104), some (.int 3), some (.int c)] [.int (rI M (fR M 104 7 + 4) c)] M v M' 0 0 := H
  have H : Ev none e 71 118 [some (.ref 104), some (.int 3), some (.int c)] [.ref 104, .int (rI M (fR M 104 7 + 4) c)] M v M' 0 0 := Ev.back 1 (fun n => rfl) H
  have H : Ev none e 71 121 [some (.ref 104), some (.int 3), some (.int c)] [.ref (fR M 104 2), .int (rI M (fR M 104 7 + 4) c)] M v M' 0 0 := Ev.back 1 (gs_3 rfl rfl (gf_r hS.1 qa_104 qr_22_2 rfl)) H
  have H : Ev none e 71 124 [some (.ref 104), some (.int 3), some (.int c)] [.int (zI M (fR M 104 2) 10), .int (rI M (fR M 104 7 + 4) c)] M v M' 0 0 := Ev.back 1 (gs_3 rfl rfl (gf_i hS.1 (hS.1.fr qa_104 qr_22_2).2 qi_28_10 rfl)) H
  have H : Ev none e 71 (if (rI M (fR M 104 7 + 4) c) < (zI M (fR M 104 2) 10) then 131 else 127) [some (.ref 104), some (.int 3), some (.int c)] [] M v M' 0 0 := Ev.back 1 (fun n => rfl) H
  by_cases h2 : (rI M (fR M 104 7 + 4) c) < (zI M (fR M 104 2) 10)
  · rw [if_pos h2] at H
    have H : Ev none e 71 132 [some (.ref 104), some (.int 3), some (.int c)] [.int 0] M v M' 0 0 := Ev.back 1 (fun n => rfl) H
    obtain ⟨z1, z2⟩ := Ev.retz rfl rfl H
    exact Or.inl ⟨h2, b1, z1, z2⟩
  · rw [if_neg h2] at H
    have H : Ev none e 71 132 [some (.ref 104), some (.int 3), some (.int c)] [.int 1] M v M' 0 0 := Ev.back 2 (fun n => rfl) H
    obtain ⟨z1, z2⟩ := Ev.retz rfl rfl H
    exact Or.inr (⟨h2, b1, z1, z2⟩)
theorem hs4_0 {e : Nat} {M M' : Mem} {v : Option Value} {c : Int32} (hS : SQ M) (H : Ev none e 71 0 [some (.ref 104), some (.int 4), some (.int c)] [] M v M' 0 0) : (0 ≤ c.toInt ∧ c.toInt < 256) ∧ v = some (.int (rI M (fR M 104 7 + 4) c)) ∧ M' = M := by
  have H : Ev none e 71 134 [some (.ref 104), some (.int 4), some (.int c)] [.ref 104] M v M' 0 0 := Ev.back 3 (fun n => rfl) H
  have H : Ev none e 71 137 [some (.ref 104), some (.int 4), some (.int c)] [.ref (fR M 104 7)] M v M' 0 0 := Ev.back 1 (gs_3 rfl rfl (gf_r hS.1 qa_104 qr_22_7 rfl)) H
  have H : Ev none e 71 140 [some (.ref 104), some (.int 4), some (.int c)] [.ref (fR M 104 7 + 4)] M v M' 0 0 := Ev.back 1 (gs_3 rfl rfl (gf_x hS.1 (hS.1.fr qa_104 qr_22_7).2 qo_8 (fx_l5 hS (hS.1.fr qa_104 qr_22_7).2) rfl)) H
  have H : Ev none e 71 141 [some (.ref 104), some (.int 4), some (.int c)] [.int c, .ref (fR M 104 7 + 4)] M v M' 0 0 := Ev.back 1 (fun n => rfl) H
  obtain ⟨b1, H⟩ := Ev.ial rfl rfl hS.1 (fx_h5 (hS.1.fr qa_104 qr_22_7).2) qw_12 H
  have H : Ev none e 71 142 [some (.ref 104), some (.int 4), some (.int c)] [.int (rI M (fR M 104 7 + 4) c)] M v M' 0 0 := H
  obtain ⟨z1, z2⟩ := Ev.retz rfl rfl H
  exact ⟨b1, z1, z2⟩
theorem hs5_0 {e : Nat} {M M' : Mem} {v : Option Value} {c : Int32} (hS : SQ M) (H : Ev none e 71 0 [some (.ref 104), some (.int 5), some (.int c)] [] M v M' 0 0) : (0 ≤ c.toInt ∧ c.toInt < 256) ∧ v = some (.int (rI M (fR M 104 7 + 5) c)) ∧ M' = M := by
  have H : Ev none e 71 144 [some (.ref 104), some (.int 5), some (.int c)] [.ref 104] M v M' 0 0 := Ev.back 3 (fun n => rfl) H
  have H : Ev none e 71 147 [some (.ref 104), some (.int 5), some (.int c)] [.ref (fR M 104 7)] M v M' 0 0 := Ev.back 1 (gs_3 rfl rfl (gf_r hS.1 qa_104 qr_22_7 rfl)) H
  have H : Ev none e 71 150 [some (.ref 104), some (.int 5), some (.int c)] [.ref (fR M 104 7 + 5)] M v M' 0 0 := Ev.back 1 (gs_3 rfl rfl (gf_x hS.1 (hS.1.fr qa_104 qr_22_7).2 qo_8 (fx_l6 hS (hS.1.fr qa_104 qr_22_7).2) rfl)) H
  have H : Ev none e 71 151 [some (.ref 104), some (.int 5), some (.int c)] [.int c, .ref (fR M 104 7 + 5)] M v M' 0 0 := Ev.back 1 (fun n => rfl) H
  obtain ⟨b1, H⟩ := Ev.ial rfl rfl hS.1 (fx_h6 (hS.1.fr qa_104 qr_22_7).2) qw_13 H
  have H : Ev none e 71 152 [some (.ref 104), some (.int 5), some (.int c)] [.int (rI M (fR M 104 7 + 5) c)] M v M' 0 0 := H
  obtain ⟨z1, z2⟩ := Ev.retz rfl rfl H
  exact ⟨b1, z1, z2⟩
theorem hs6_0 {e : Nat} {M M' : Mem} {v : Option Value} {c : Int32} (hS : SQ M) (H : Ev none e 71 0 [some (.ref 104), some (.int 6), some (.int c)] [] M v M' 0 0) : (0 ≤ c.toInt ∧ c.toInt < 256) ∧ v = some (.int (rI M (fR M 104 7 + 3) c)) ∧ M' = M := by
  have H : Ev none e 71 154 [some (.ref 104), some (.int 6), some (.int c)] [.ref 104] M v M' 0 0 := Ev.back 3 (fun n => rfl) H
  have H : Ev none e 71 157 [some (.ref 104), some (.int 6), some (.int c)] [.ref (fR M 104 7)] M v M' 0 0 := Ev.back 1 (gs_3 rfl rfl (gf_r hS.1 qa_104 qr_22_7 rfl)) H
  have H : Ev none e 71 160 [some (.ref 104), some (.int 6), some (.int c)] [.ref (fR M 104 7 + 3)] M v M' 0 0 := Ev.back 1 (gs_3 rfl rfl (gf_x hS.1 (hS.1.fr qa_104 qr_22_7).2 qo_8 (fx_l4 hS (hS.1.fr qa_104 qr_22_7).2) rfl)) H
  have H : Ev none e 71 161 [some (.ref 104), some (.int 6), some (.int c)] [.int c, .ref (fR M 104 7 + 3)] M v M' 0 0 := Ev.back 1 (fun n => rfl) H
  obtain ⟨b1, H⟩ := Ev.ial rfl rfl hS.1 (fx_h4 (hS.1.fr qa_104 qr_22_7).2) qw_11 H
  have H : Ev none e 71 162 [some (.ref 104), some (.int 6), some (.int c)] [.int (rI M (fR M 104 7 + 3) c)] M v M' 0 0 := H
  obtain ⟨z1, z2⟩ := Ev.retz rfl rfl H
  exact ⟨b1, z1, z2⟩
theorem hs7_0 {e : Nat} {M M' : Mem} {v : Option Value} {c : Int32} (hS : SQ M) (H : Ev none e 71 0 [some (.ref 104), some (.int 7), some (.int c)] [] M v M' 0 0) : (0 ≤ c.toInt ∧ c.toInt < 256) ∧ v = some (.int (rI M (fR M 104 7 + 6) c)) ∧ M' = M := by
  have H : Ev none e 71 164 [some (.ref 104), some (.int 7), some (.int c)] [.ref 104] M v M' 0 0 := Ev.back 3 (fun n => rfl) H
  have H : Ev none e 71 167 [some (.ref 104), some (.int 7), some (.int c)] [.ref (fR M 104 7)] M v M' 0 0 := Ev.back 1 (gs_3 rfl rfl (gf_r hS.1 qa_104 qr_22_7 rfl)) H
  have H : Ev none e 71 170 [some (.ref 104), some (.int 7), some (.int c)] [.ref (fR M 104 7 + 6)] M v M' 0 0 := Ev.back 1 (gs_3 rfl rfl (gf_x hS.1 (hS.1.fr qa_104 qr_22_7).2 qo_8 (fx_l7 hS (hS.1.fr qa_104 qr_22_7).2) rfl)) H
  have H : Ev none e 71 171 [some (.ref 104), some (.int 7), some (.int c)] [.int c, .ref (fR M 104 7 + 6)] M v M' 0 0 := Ev.back 1 (fun n => rfl) H
  obtain ⟨b1, H⟩ := Ev.ial rfl rfl hS.1 (fx_h7 (hS.1.fr qa_104 qr_22_7).2) qw_14 H
  have H : Ev none e 71 172 [some (.ref 104), some (.int 7), some (.int c)] [.int (rI M (fR M 104 7 + 6) c)] M v M' 0 0 := H
  obtain ⟨z1, z2⟩ := Ev.retz rfl rfl H
  exact ⟨b1, z1, z2⟩
theorem hw_0 {e : Nat} {M M' : Mem} {v : Option Value} {i c : Int32} {t : Nat} (hS : SQ M) (a_t : gNth sT t = some 28) (H : Ev none e 70 0 [some (.ref 104), some (.ref t), some (.int i), some (.int c), none, none, none, none, none] [] M v M' 0 0) : ((rI M (t + 4) i) = (rI M (t + 5) i) ∧ (0 ≤ i.toInt ∧ i.toInt < 16) ∧ (0 ≤ i.toInt ∧ i.toInt < 16) ∧ v = some (.int 1) ∧ M' = M) ∨ (¬ ((rI M (t + 4) i) = (rI M (t + 5) i)) ∧ (0 ≤ i.toInt ∧ i.toInt < 16) ∧ (0 ≤ i.toInt ∧ i.toInt < 16) ∧ (0 ≤ i.toInt ∧ i.toInt < 16) ∧ Ev none e 70 28 [some (.ref 104), some (.ref t), some (.int i), some (.int c), some (.int 0), some (.int (rI M (t + 4) i)), none, none, none] [] M v M' 0 0) := by
  have H : Ev none e 70 1 [some (.ref 104), some (.ref t), some (.int i), some (.int c), none, none, none, none, none] [.ref t] M v M' 0 0 := Ev.back 1 (fun n => rfl) H
  have H : Ev none e 70 4 [some (.ref 104), some (.ref t), some (.int i), some (.int c), none, none, none, none, none] [.ref (t + 4)] M v M' 0 0 := Ev.back 1 (gs_3 rfl rfl (gf_x hS.1 a_t qo_28 (fx_t3 hS a_t) rfl)) H
  have H : Ev none e 70 5 [some (.ref 104), some (.ref t), some (.int i), some (.int c), none, none, none, none, none] [.int i, .ref (t + 4)] M v M' 0 0 := Ev.back 1 (fun n => rfl) H
  obtain ⟨b1, H⟩ := Ev.ial rfl rfl hS.1 (fx_g3 a_t) qw_32 H
  have H : Ev none e 70 6 [some (.ref 104), some (.ref t), some (.int i), some (.int c), none, none, none, none, none] [.int (rI M (t + 4) i)] M v M' 0 0 := H
  have H : Ev none e 70 7 [some (.ref 104), some (.ref t), some (.int i), some (.int c), none, none, none, none, none] [.ref t, .int (rI M (t + 4) i)] M v M' 0 0 := Ev.back 1 (fun n => rfl) H
  have H : Ev none e 70 10 [some (.ref 104), some (.ref t), some (.int i), some (.int c), none, none, none, none, none] [.ref (t + 5), .int (rI M (t + 4) i)] M v M' 0 0 := Ev.back 1 (gs_3 rfl rfl (gf_x hS.1 a_t qo_28 (fx_t4 hS a_t) rfl)) H
  have H : Ev none e 70 11 [some (.ref 104), some (.ref t), some (.int i), some (.int c), none, none, none, none, none] [.int i, .ref (t + 5), .int (rI M (t + 4) i)] M v M' 0 0 := Ev.back 1 (fun n => rfl) H
  obtain ⟨b2, H⟩ := Ev.ial rfl rfl hS.1 (fx_g4 a_t) qw_33 H
  have H : Ev none e 70 12 [some (.ref 104), some (.ref t), some (.int i), some (.int c), none, none, none, none, none] [.int (rI M (t + 5) i), .int (rI M (t + 4) i)] M v M' 0 0 := H
  have H : Ev none e 70 (if (rI M (t + 4) i) = (rI M (t + 5) i) then 15 else 17) [some (.ref 104), some (.ref t), some (.int i), some (.int c), none, none, none, none, none] [] M v M' 0 0 := Ev.back 1 (fun n => rfl) H
  by_cases h3 : (rI M (t + 4) i) = (rI M (t + 5) i)
  · rw [if_pos h3] at H
    have H : Ev none e 70 16 [some (.ref 104), some (.ref t), some (.int i), some (.int c), none, none, none, none, none] [.int 1] M v M' 0 0 := Ev.back 1 (fun n => rfl) H
    obtain ⟨z1, z2⟩ := Ev.retz rfl rfl H
    exact Or.inl ⟨h3, b1, b2, z1, z2⟩
  · rw [if_neg h3] at H
    have H : Ev none e 70 21 [some (.ref 104), some (.ref t), some (.int i), some (.int c), some (.int 0), none, none, none, none] [.ref t] M v M' 0 0 := Ev.back 3 (fun n => rfl) H
    have H : Ev none e 70 24 [some (.ref 104), some (.ref t), some (.int i), some (.int c), some (.int 0), none, none, none, none] [.ref (t + 4)] M v M' 0 0 := Ev.back 1 (gs_3 rfl rfl (gf_x hS.1 a_t qo_28 (fx_t3 hS a_t) rfl)) H
    have H : Ev none e 70 25 [some (.ref 104), some (.ref t), some (.int i), some (.int c), some (.int 0), none, none, none, none] [.int i, .ref (t + 4)] M v M' 0 0 := Ev.back 1 (fun n => rfl) H
    obtain ⟨b4, H⟩ := Ev.ial rfl rfl hS.1 (fx_g3 a_t) qw_32 H
    have H : Ev none e 70 26 [some (.ref 104), some (.ref t), some (.int i), some (.int c), some (.int 0), none, none, none, none] [.int (rI M (t + 4) i)] M v M' 0 0 := H
    have H : Ev none e 70 28 [some (.ref 104), some (.ref t), some (.int i), some (.int c), some (.int 0), some (.int (rI M (t + 4) i)), none, none, none] [] M v M' 0 0 := Ev.back 1 (fun n => rfl) H
    have HF := H
    exact Or.inr (⟨h3, b1, b2, b4, HF⟩)
theorem hw_28 {e : Nat} {M M' : Mem} {v : Option Value} {i c sk n : Int32} {t : Nat} {c6 c7 c8 : Option Value} (hS : SQ M) (a_t : gNth sT t = some 28) (H : Ev none e 70 28 [some (.ref 104), some (.ref t), some (.int i), some (.int c), some (.int sk), some (.int n), c6, c7, c8] [] M v M' 0 0) : ((rI M (t + 5) i) ≤ n ∧ (0 ≤ i.toInt ∧ i.toInt < 16) ∧ Ev none e 70 169 [some (.ref 104), some (.ref t), some (.int i), some (.int c), some (.int sk), some (.int n), c6, c7, c8] [] M v M' 0 0) ∨ (¬ ((rI M (t + 5) i) ≤ n) ∧ 96 ≤ n ∧ (0 ≤ i.toInt ∧ i.toInt < 16) ∧ Ev none e 70 169 [some (.ref 104), some (.ref t), some (.int i), some (.int c), some (.int sk), some (.int n), c6, c7, c8] [] M v M' 0 0) ∨ (¬ ((rI M (t + 5) i) ≤ n) ∧ ¬ (96 ≤ n) ∧ (rI M (t + 6) n) = 8 ∧ (0 ≤ i.toInt ∧ i.toInt < 16) ∧ (0 ≤ n.toInt ∧ n.toInt < 96) ∧ Ev none e 70 28 [some (.ref 104), some (.ref t), some (.int i), some (.int c), some (.int (sk ^^^ 1)), some (.int (n + 1)), some (.int (rI M (t + 6) n)), some (.int (sk &&& 1)), c8] [] M v M' 0 0) ∨ (¬ ((rI M (t + 5) i) ≤ n) ∧ ¬ (96 ≤ n) ∧ ¬ ((rI M (t + 6) n) = 8) ∧ (rI M (t + 6) n) = 10 ∧ (0 ≤ i.toInt ∧ i.toInt < 16) ∧ (0 ≤ n.toInt ∧ n.toInt < 96) ∧ Ev none e 70 28 [some (.ref 104), some (.ref t), some (.int i), some (.int c), some (.int (((sk.toUInt32 >>> ((1 : Int32).toUInt32 &&& Int32.toUInt32 31)).toInt32) ||| (sk &&& 1))), some (.int (n + 1)), some (.int (rI M (t + 6) n)), some (.int (sk &&& 1)), c8] [] M v M' 0 0) ∨ (¬ ((rI M (t + 5) i) ≤ n) ∧ ¬ (96 ≤ n) ∧ ¬ ((rI M (t + 6) n) = 8) ∧ ¬ ((rI M (t + 6) n) = 10) ∧ (rI M (t + 6) n) = 9 ∧ (0 ≤ i.toInt ∧ i.toInt < 16) ∧ (0 ≤ n.toInt ∧ n.toInt < 96) ∧ Ev none e 70 28 [some (.ref 104), some (.ref t), some (.int i), some (.int c), some (.int (((sk.toUInt32 >>> ((1 : Int32).toUInt32 &&& Int32.toUInt32 31)).toInt32) &&& ((-2) ||| (sk &&& 1)))), some (.int (n + 1)), some (.int (rI M (t + 6) n)), some (.int (sk &&& 1)), c8] [] M v M' 0 0) ∨ (¬ ((rI M (t + 5) i) ≤ n) ∧ ¬ (96 ≤ n) ∧ ¬ ((rI M (t + 6) n) = 8) ∧ ¬ ((rI M (t + 6) n) = 10) ∧ ¬ ((rI M (t + 6) n) = 9) ∧ (0 ≤ i.toInt ∧ i.toInt < 16) ∧ (0 ≤ n.toInt ∧ n.toInt < 96) ∧ (∃ e1 v1 M1, e = e1 + 1 ∧ Ev none e1 71 0 [some (.ref 104), some (.int (rI M (t + 6) n)), some (.int c)] [] M v1 M1 0 0 ∧ Ev none e 70 125 [some (.ref 104), some (.ref t), some (.int i), some (.int c), some (.int sk), some (.int n), some (.int (rI M (t + 6) n)), some (.int (sk &&& 1)), c8] (v1.toList ++ []) M1 v M' 0 0)) := by
  have H : Ev none e 70 31 [some (.ref 104), some (.ref t), some (.int i), some (.int c), some (.int sk), some (.int n), c6, c7, c8] [.ref t, .int n] M v M' 0 0 := Ev.back 2 (fun n => rfl) H
  have H : Ev none e 70 34 [some (.ref 104), some (.ref t), some (.int i), some (.int c), some (.int sk), some (.int n), c6, c7, c8] [.ref (t + 5), .int n] M v M' 0 0 := Ev.back 1 (gs_3 rfl rfl (gf_x hS.1 a_t qo_28 (fx_t4 hS a_t) rfl)) H
  have H : Ev none e 70 35 [some (.ref 104), some (.ref t), some (.int i), some (.int c), some (.int sk), some (.int n), c6, c7, c8] [.int i, .ref (t + 5), .int n] M v M' 0 0 := Ev.back 1 (fun n => rfl) H
  obtain ⟨b1, H⟩ := Ev.ial rfl rfl hS.1 (fx_g4 a_t) qw_33 H
  have H : Ev none e 70 36 [some (.ref 104), some (.ref t), some (.int i), some (.int c), some (.int sk), some (.int n), c6, c7, c8] [.int (rI M (t + 5) i), .int n] M v M' 0 0 := H
  have H : Ev none e 70 (if (rI M (t + 5) i) ≤ n then 169 else 39) [some (.ref 104), some (.ref t), some (.int i), some (.int c), some (.int sk), some (.int n), c6, c7, c8] [] M v M' 0 0 := Ev.back 1 (fun n => rfl) H
  by_cases h2 : (rI M (t + 5) i) ≤ n
  · rw [if_pos h2] at H
    have HF := H
    exact Or.inl ⟨h2, b1, HF⟩
  · rw [if_neg h2] at H
    have H : Ev none e 70 (if 96 ≤ n then 169 else 46) [some (.ref 104), some (.ref t), some (.int i), some (.int c), some (.int sk), some (.int n), c6, c7, c8] [] M v M' 0 0 := Ev.back 3 (fun n => rfl) H
    by_cases h3 : 96 ≤ n
    · rw [if_pos h3] at H
      have HF := H
      exact Or.inr (Or.inl ⟨h2, h3, b1, HF⟩)
    · rw [if_neg h3] at H
      have H : Ev none e 70 47 [some (.ref 104), some (.ref t), some (.int i), some (.int c), some (.int sk), some (.int n), c6, c7, c8] [.ref t] M v M' 0 0 := Ev.back 1 (fun n => rfl) H
      have H : Ev none e 70 50 [some (.ref 104), some (.ref t), some (.int i), some (.int c), some (.int sk), some (.int n), c6, c7, c8] [.ref (t + 6)] M v M' 0 0 := Ev.back 1 (gs_3 rfl rfl (gf_x hS.1 a_t qo_28 (fx_t5 hS a_t) rfl)) H
      have H : Ev none e 70 52 [some (.ref 104), some (.ref t), some (.int i), some (.int c), some (.int sk), some (.int n), c6, c7, c8] [.int n, .ref (t + 6)] M v M' 0 0 := Ev.back 1 (fun n => rfl) H
      obtain ⟨b4, H⟩ := Ev.ial rfl rfl hS.1 (fx_g5 a_t) qw_34 H
      have H : Ev none e 70 53 [some (.ref 104), some (.ref t), some (.int i), some (.int c), some (.int sk), some (.int n), c6, c7, c8] [.int (rI M (t + 6) n)] M v M' 0 0 := H
      have H : Ev none e 70 (if (rI M (t + 6) n) = 8 then 68 else 77) [some (.ref 104), some (.ref t), some (.int i), some (.int c), some (.int sk), some (.int n), some (.int (rI M (t + 6) n)), some (.int (sk &&& 1)), c8] [] M v M' 0 0 := Ev.back 8 (fun n => rfl) H
      by_cases h5 : (rI M (t + 6) n) = 8
      · rw [if_pos h5] at H
        have H : Ev none e 70 28 [some (.ref 104), some (.ref t), some (.int i), some (.int c), some (.int (sk ^^^ 1)), some (.int (n + 1)), some (.int (rI M (t + 6) n)), some (.int (sk &&& 1)), c8] [] M v M' 0 0 := Ev.back 7 (fun n => rfl) H
        have HF := H
        exact Or.inr (Or.inr (Or.inl ⟨h2, h3, h5, b1, b4, HF⟩))
      · rw [if_neg h5] at H
        have H : Ev none e 70 (if (rI M (t + 6) n) = 10 then 84 else 96) [some (.ref 104), some (.ref t), some (.int i), some (.int c), some (.int sk), some (.int n), some (.int (rI M (t + 6) n)), some (.int (sk &&& 1)), c8] [] M v M' 0 0 := Ev.back 3 (fun n => rfl) H
        by_cases h6 : (rI M (t + 6) n) = 10
        · rw [if_pos h6] at H
          have H : Ev none e 70 28 [some (.ref 104), some (.ref t), some (.int i), some (.int c), some (.int (((sk.toUInt32 >>> ((1 : Int32).toUInt32 &&& Int32.toUInt32 31)).toInt32) ||| (sk &&& 1))), some (.int (n + 1)), some (.int (rI M (t + 6) n)), some (.int (sk &&& 1)), c8] [] M v M' 0 0 := Ev.back 9 (fun n => rfl) H
          have HF := H
          exact Or.inr (Or.inr (Or.inr (Or.inl ⟨h2, h3, h5, h6, b1, b4, HF⟩)))
        · rw [if_neg h6] at H
          have H : Ev none e 70 (if (rI M (t + 6) n) = 9 then 103 else 118) [some (.ref 104), some (.ref t), some (.int i), some (.int c), some (.int sk), some (.int n), some (.int (rI M (t + 6) n)), some (.int (sk &&& 1)), c8] [] M v M' 0 0 := Ev.back 3 (fun n => rfl) H
          by_cases h7 : (rI M (t + 6) n) = 9
          · rw [if_pos h7] at H
            have H : Ev none e 70 28 [some (.ref 104), some (.ref t), some (.int i), some (.int c), some (.int (((sk.toUInt32 >>> ((1 : Int32).toUInt32 &&& Int32.toUInt32 31)).toInt32) &&& ((-2) ||| (sk &&& 1)))), some (.int (n + 1)), some (.int (rI M (t + 6) n)), some (.int (sk &&& 1)), c8] [] M v M' 0 0 := Ev.back 11 (fun n => rfl) H
            have HF := H
            exact Or.inr (Or.inr (Or.inr (Or.inr (Or.inl ⟨h2, h3, h5, h6, h7, b1, b4, HF⟩))))
          · rw [if_neg h7] at H
            have H : Ev none e 70 122 [some (.ref 104), some (.ref t), some (.int i), some (.int c), some (.int sk), some (.int n), some (.int (rI M (t + 6) n)), some (.int (sk &&& 1)), c8] [.int c, .int (rI M (t + 6) n), .ref 104] M v M' 0 0 := Ev.back 3 (fun n => rfl) H
            obtain ⟨e1, rfl⟩ := Ev.dpos rfl rfl H
            obtain ⟨vK8, MK8, K8, H⟩ := Ev.callb (fun n_ => gs_7 rfl rfl (show gCal (.invokevirtual 270) 7 (.int c :: .int (rI M (t + 6) n) :: .ref 104 :: []) M = some (.inr (71, [some (.ref 104), some (.int (rI M (t + 6) n)), some (.int c)], [])) from by show @cond (Option ((List Value × Mem) ⊕ (Nat × Lo × List Value))) (true && gRecv M (.ref 104) 7 && gRoom [] && true) (some (.inr (71, [some (.ref 104), some (.int (rI M (t + 6) n)), some (.int c)], []))) none = _; rw [recv_s hS.1 qa_104 qo_22]; rfl)) H
            have K8 : Ev none e1 71 0 [some (.ref 104), some (.int (rI M (t + 6) n)), some (.int c)] [] M vK8 MK8 0 0 := K8
            have HF := H
            exact Or.inr (Or.inr (Or.inr (Or.inr (Or.inr (⟨h2, h3, h5, h6, h7, b1, b4, ⟨e1, vK8, MK8, rfl, K8, HF⟩⟩)))))
theorem hw_125 {e : Nat} {M M' : Mem} {v : Option Value} {i c sk n ak tp y : Int32} {t : Nat} {c8 : Option Value} (hS : SQ M) (a_t : gNth sT t = some 28) (H : Ev none e 70 125 [some (.ref 104), some (.ref t), some (.int i), some (.int c), some (.int sk), some (.int n), some (.int ak), some (.int tp), c8] [.int y] M v M' 0 0) : (y < (rI M (t + 7) n) ∧ (0 ≤ n.toInt ∧ n.toInt < 96) ∧ Ev none e 70 28 [some (.ref 104), some (.ref t), some (.int i), some (.int c), some (.int ((sk <<< ((1 : Int32) &&& 31)) ||| 0)), some (.int (n + 1)), some (.int ak), some (.int tp), some (.int y)] [] M v M' 0 0) ∨ (¬ (y < (rI M (t + 7) n)) ∧ (rI M (t + 8) n) < y ∧ (0 ≤ n.toInt ∧ n.toInt < 96) ∧ (0 ≤ n.toInt ∧ n.toInt < 96) ∧ Ev none e 70 28 [some (.ref 104), some (.ref t), some (.int i), some (.int c), some (.int ((sk <<< ((1 : Int32) &&& 31)) ||| 0)), some (.int (n + 1)), some (.int ak), some (.int tp), some (.int y)] [] M v M' 0 0) ∨ (¬ (y < (rI M (t + 7) n)) ∧ ¬ ((rI M (t + 8) n) < y) ∧ (0 ≤ n.toInt ∧ n.toInt < 96) ∧ (0 ≤ n.toInt ∧ n.toInt < 96) ∧ Ev none e 70 28 [some (.ref 104), some (.ref t), some (.int i), some (.int c), some (.int ((sk <<< ((1 : Int32) &&& 31)) ||| 1)), some (.int (n + 1)), some (.int ak), some (.int tp), some (.int y)] [] M v M' 0 0) := by
  have H : Ev none e 70 134 [some (.ref 104), some (.ref t), some (.int i), some (.int c), some (.int sk), some (.int n), some (.int ak), some (.int tp), some (.int y)] [.ref t, .int y, .int (sk <<< ((1 : Int32) &&& 31))] M v M' 0 0 := Ev.back 6 (fun n => rfl) H
  have H : Ev none e 70 137 [some (.ref 104), some (.ref t), some (.int i), some (.int c), some (.int sk), some (.int n), some (.int ak), some (.int tp), some (.int y)] [.ref (t + 7), .int y, .int (sk <<< ((1 : Int32) &&& 31))] M v M' 0 0 := Ev.back 1 (gs_3 rfl rfl (gf_x hS.1 a_t qo_28 (fx_t6 hS a_t) rfl)) H
  have H : Ev none e 70 139 [some (.ref 104), some (.ref t), some (.int i), some (.int c), some (.int sk), some (.int n), some (.int ak), some (.int tp), some (.int y)] [.int n, .ref (t + 7), .int y, .int (sk <<< ((1 : Int32) &&& 31))] M v M' 0 0 := Ev.back 1 (fun n => rfl) H
  obtain ⟨b1, H⟩ := Ev.ial rfl rfl hS.1 (fx_g6 a_t) qw_35 H
  have H : Ev none e 70 140 [some (.ref 104), some (.ref t), some (.int i), some (.int c), some (.int sk), some (.int n), some (.int ak), some (.int tp), some (.int y)] [.int (rI M (t + 7) n), .int y, .int (sk <<< ((1 : Int32) &&& 31))] M v M' 0 0 := H
  have H : Ev none e 70 (if y < (rI M (t + 7) n) then 159 else 143) [some (.ref 104), some (.ref t), some (.int i), some (.int c), some (.int sk), some (.int n), some (.int ak), some (.int tp), some (.int y)] [.int (sk <<< ((1 : Int32) &&& 31))] M v M' 0 0 := Ev.back 1 (fun n => rfl) H
  by_cases h2 : y < (rI M (t + 7) n)
  · rw [if_pos h2] at H
    have H : Ev none e 70 28 [some (.ref 104), some (.ref t), some (.int i), some (.int c), some (.int ((sk <<< ((1 : Int32) &&& 31)) ||| 0)), some (.int (n + 1)), some (.int ak), some (.int tp), some (.int y)] [] M v M' 0 0 := Ev.back 5 (fun n => rfl) H
    have HF := H
    exact Or.inl ⟨h2, b1, HF⟩
  · rw [if_neg h2] at H
    have H : Ev none e 70 146 [some (.ref 104), some (.ref t), some (.int i), some (.int c), some (.int sk), some (.int n), some (.int ak), some (.int tp), some (.int y)] [.ref t, .int y, .int (sk <<< ((1 : Int32) &&& 31))] M v M' 0 0 := Ev.back 2 (fun n => rfl) H
    have H : Ev none e 70 149 [some (.ref 104), some (.ref t), some (.int i), some (.int c), some (.int sk), some (.int n), some (.int ak), some (.int tp), some (.int y)] [.ref (t + 8), .int y, .int (sk <<< ((1 : Int32) &&& 31))] M v M' 0 0 := Ev.back 1 (gs_3 rfl rfl (gf_x hS.1 a_t qo_28 (fx_t7 hS a_t) rfl)) H
    have H : Ev none e 70 151 [some (.ref 104), some (.ref t), some (.int i), some (.int c), some (.int sk), some (.int n), some (.int ak), some (.int tp), some (.int y)] [.int n, .ref (t + 8), .int y, .int (sk <<< ((1 : Int32) &&& 31))] M v M' 0 0 := Ev.back 1 (fun n => rfl) H
    obtain ⟨b3, H⟩ := Ev.ial rfl rfl hS.1 (fx_g7 a_t) qw_36 H
    have H : Ev none e 70 152 [some (.ref 104), some (.ref t), some (.int i), some (.int c), some (.int sk), some (.int n), some (.int ak), some (.int tp), some (.int y)] [.int (rI M (t + 8) n), .int y, .int (sk <<< ((1 : Int32) &&& 31))] M v M' 0 0 := H
    have H : Ev none e 70 (if (rI M (t + 8) n) < y then 159 else 155) [some (.ref 104), some (.ref t), some (.int i), some (.int c), some (.int sk), some (.int n), some (.int ak), some (.int tp), some (.int y)] [.int (sk <<< ((1 : Int32) &&& 31))] M v M' 0 0 := Ev.back 1 (fun n => rfl) H
    by_cases h4 : (rI M (t + 8) n) < y
    · rw [if_pos h4] at H
      have H : Ev none e 70 28 [some (.ref 104), some (.ref t), some (.int i), some (.int c), some (.int ((sk <<< ((1 : Int32) &&& 31)) ||| 0)), some (.int (n + 1)), some (.int ak), some (.int tp), some (.int y)] [] M v M' 0 0 := Ev.back 5 (fun n => rfl) H
      have HF := H
      exact Or.inr (Or.inl ⟨h2, h4, b1, b3, HF⟩)
    · rw [if_neg h4] at H
      have H : Ev none e 70 28 [some (.ref 104), some (.ref t), some (.int i), some (.int c), some (.int ((sk <<< ((1 : Int32) &&& 31)) ||| 1)), some (.int (n + 1)), some (.int ak), some (.int tp), some (.int y)] [] M v M' 0 0 := Ev.back 6 (fun n => rfl) H
      have HF := H
      exact Or.inr (Or.inr (⟨h2, h4, b1, b3, HF⟩))
theorem hw_169 {e : Nat} {M M' : Mem} {v : Option Value} {i c sk n : Int32} {t : Nat} {c6 c7 c8 : Option Value} (hS : SQ M) (a_t : gNth sT t = some 28) (H : Ev none e 70 169 [some (.ref 104), some (.ref t), some (.int i), some (.int c), some (.int sk), some (.int n), c6, c7, c8] [] M v M' 0 0) : ((sk &&& 1) = 1 ∧ v = some (.int 1) ∧ M' = M) ∨ (¬ ((sk &&& 1) = 1) ∧ v = some (.int 0) ∧ M' = M) := by
  have H : Ev none e 70 (if (sk &&& 1) = 1 then 177 else 181) [some (.ref 104), some (.ref t), some (.int i), some (.int c), some (.int sk), some (.int n), c6, c7, c8] [] M v M' 0 0 := Ev.back 5 (fun n => rfl) H
  by_cases h1 : (sk &&& 1) = 1
  · rw [if_pos h1] at H
    have H : Ev none e 70 182 [some (.ref 104), some (.ref t), some (.int i), some (.int c), some (.int sk), some (.int n), c6, c7, c8] [.int 1] M v M' 0 0 := Ev.back 2 (fun n => rfl) H
    obtain ⟨z1, z2⟩ := Ev.retz rfl rfl H
    exact Or.inl ⟨h1, z1, z2⟩
  · rw [if_neg h1] at H
    have H : Ev none e 70 182 [some (.ref 104), some (.ref t), some (.int i), some (.int c), some (.int sk), some (.int n), c6, c7, c8] [.int 0] M v M' 0 0 := Ev.back 1 (fun n => rfl) H
    obtain ⟨z1, z2⟩ := Ev.retz rfl rfl H
    exact Or.inr (⟨h1, z1, z2⟩)
/-! THE CLASS'S holds: the COND evaluated -/
/-- the land walked on, as P says; the law's three numbers -/
def LCel (L : Nat) (P : PK) (M : Mem) : Prop := ∀ k f, k < clsP P → f < 7 → rN M (L + 1 + f) k = P (522 + 7 * k + f)
def CV (L : Nat) (g : TQ) (P : PK) (M : Mem) : Prop := SQ M ∧ fR M 104 7 = L ∧ gNth sT L = some 8 ∧ zI M (fR M 104 2) 10 = bdQ g ∧ zI M (fR M 104 2) 11 = mdQ g ∧ zI M (fR M 104 2) 12 = dyQ g ∧ LCel L P M
section HLD
variable {e L t : Nat} {g q : TQ} {P : PK} {M M' : Mem} {v : Option Value} {c : Int32}
theorem LCel.at (h : LCel L P M) (hc : inC P c) {f : Nat} (hf : f < 7) : rI M (L + 1 + f) c = cE P f c := h c.toInt.toNat f hc.2 hf
theorem dec_eq (y k : Int32) : decide (y = k) = decide (¬ y < k ∧ ¬ k < y) := by
  refine decide_eq_decide.mpr ?_
  rw [Int32.lt_iff_toInt_lt, Int32.lt_iff_toInt_lt, ← Int32.toInt_inj]
  omega
theorem dec_lt {y n : Int32} (hy : 0 ≤ y.toInt) (h0 : 0 ≤ n.toInt) (h9 : n.toInt ≤ 999) : decide (y < n) = decide (¬ y < 0 ∧ ¬ n - 1 < y) := by
  refine decide_eq_decide.mpr ?_
  have e0 : (0 : Int32).toInt = 0 := rfl
  have e1 := i32_m1 (n := n) (by omega)
  rw [Int32.lt_iff_toInt_lt, Int32.lt_iff_toInt_lt, Int32.lt_iff_toInt_lt, e0, e1]
  omega
theorem dec_gt {y n : Int32} (h0 : 0 ≤ n.toInt) (h9 : n.toInt ≤ 999) : decide (n < y) = decide (¬ y < n + 1 ∧ ¬ (2147483647 : Int32) < y) := by
  refine decide_eq_decide.mpr ?_
  have e0 : (2147483647 : Int32).toInt = 2147483647 := rfl
  have e1 := i32_p1 (n := n) (by omega)
  have e2 := (i32_lt y).2
  rw [Int32.lt_iff_toInt_lt, Int32.lt_iff_toInt_lt, Int32.lt_iff_toInt_lt, e0, e1]
  omega
theorem cM_a {m : Nat} (hm : m ≤ 7) (s n : Int32) : cM (nI m, s, n) = (sI 3 (nI m), sI 4 (nI m), sI 4 (nI m)) := by
  obtain ⟨h1, h2, h3, h4⟩ := (by decide : ∀ m : Nat, m ≤ 7 → ¬ nI m = 20 ∧ ¬ nI m = 21 ∧ ¬ nI m = 22 ∧ nI m < 8) m hm
  unfold cM
  rw [if_neg h1, if_neg h2, if_neg h3, if_pos h4]
theorem cM_c {m : Nat} (hm : 8 ≤ m) (hm2 : m ≤ 11) (s n : Int32) : cM (nI m, s, n) = if s = 60 then (sI 3 (nI m), 0, n - 1) else if s = 61 then (sI 3 (nI m), n, n) else (sI 3 (nI m), n + 1, 2147483647) := by
  obtain ⟨h1, h2, h3, h4⟩ := (by decide : ∀ m : Nat, m ≤ 11 → 8 ≤ m → ¬ nI m = 20 ∧ ¬ nI m = 21 ∧ ¬ nI m = 22 ∧ ¬ nI m < 8) m hm2 hm
  unfold cM
  rw [if_neg h1, if_neg h2, if_neg h3, if_neg h4]
theorem cM_c1 {m : Nat} (hm : 8 ≤ m) (hm2 : m ≤ 11) (s n : Int32) : (cM (nI m, s, n)).1 = sI 3 (nI m) := by
  rw [cM_c hm hm2]
  split
  · rfl
  · split <;> rfl
theorem cmp_dec {y s n : Int32} {m : Nat} (hm : 8 ≤ m) (hm2 : m ≤ 11) (hs : s = 60 ∨ s = 61 ∨ s = 62) (hy : 0 ≤ y.toInt) (h0 : 0 ≤ n.toInt) (h9 : n.toInt ≤ 999) : cmpV y s n = decide (¬ y < (cM (nI m, s, n)).2.1 ∧ ¬ (cM (nI m, s, n)).2.2 < y) := by
  rw [cM_c hm hm2]
  unfold cmpV
  rcases hs with rfl | rfl | rfl
  · rw [if_pos rfl, if_pos rfl]
    exact dec_lt hy h0 h9
  · rw [if_neg (by decide), if_pos rfl, if_neg (by decide), if_pos rfl]
    exact dec_eq y n
  · rw [if_neg (by decide), if_neg (by decide), if_neg (by decide), if_neg (by decide)]
    exact dec_gt h0 h9
theorem cM_sm {cd : Cdq} (hk : atC cd) : (cM cd).1 ≠ 8 ∧ (cM cd).1 ≠ 9 ∧ (cM cd).1 ≠ 10 := by
  have k0 : 0 ≤ cd.1.toInt ∧ cd.1.toInt ≤ ((11 : Nat) : Int) := ⟨hk.1, by rcases hk.2 with h | ⟨_, h, _⟩ <;> omega⟩
  obtain ⟨m, hm, he⟩ := i32_in k0.1 k0.2 (by decide)
  obtain ⟨a, s, n⟩ := cd
  have he : a = nI m := he
  subst he
  have h3 := (by decide : ∀ m : Nat, m ≤ 11 → sI 3 (nI m) ≠ 8 ∧ sI 3 (nI m) ≠ 9 ∧ sI 3 (nI m) ≠ 10) m hm
  by_cases h8 : 8 ≤ m
  · rw [cM_c1 h8 hm]
    exact h3
  · rw [cM_a (by omega)]
    exact h3
theorem asked_ok (hV : CV L g P M) (hc : inC P c) (hn : nnC P c) {cd : Cdq} (hk : atC cd) (H : Ev none e 71 0 [some (.ref 104), some (.int (cM cd).1), some (.int c)] [] M v M' 0 0) : M' = M ∧ ∃ y, v = some (.int y) ∧ trP g P c cd = decide (¬ y < (cM cd).2.1 ∧ ¬ (cM cd).2.2 < y) := by
  obtain ⟨hS, hL, hT, l1, l2, _, hC⟩ := hV
  obtain ⟨n2, n3, n4, n5⟩ := hn
  have k0 : 0 ≤ cd.1.toInt ∧ cd.1.toInt ≤ ((11 : Nat) : Int) := ⟨hk.1, by rcases hk.2 with h | ⟨_, h, _⟩ <;> omega⟩
  obtain ⟨m, hm, he⟩ := i32_in k0.1 k0.2 (by decide)
  obtain ⟨a, s, n⟩ := cd
  have he : a = nI m := he
  subst he
  have r0 : rI M (L + 1) c = cE P 0 c := hC.at hc (f := 0) (by decide)
  have r1 : rI M (L + 2) c = cE P 1 c := hC.at hc (f := 1) (by decide)
  have r2 : rI M (L + 3) c = cE P 2 c := hC.at hc (f := 2) (by decide)
  have r3 : rI M (L + 4) c = cE P 3 c := hC.at hc (f := 3) (by decide)
  have r4 : rI M (L + 5) c = cE P 4 c := hC.at hc (f := 4) (by decide)
  have r5 : rI M (L + 6) c = cE P 5 c := hC.at hc (f := 5) (by decide)
  have hcmp : 8 ≤ m → (s = 60 ∨ s = 61 ∨ s = 62) ∧ 0 ≤ n.toInt ∧ n.toInt ≤ 999 := fun h8 => by
    have h := (by decide : ∀ m : Nat, m ≤ 11 → 8 ≤ m → ¬ (nI m).toInt ≤ 7) m hm h8
    rcases hk.2 with q | ⟨_, _, q⟩
    · exact absurd q h
    · exact q
  clear hk k0
  match m, hm with
  | 0, _ =>
    have e1 : (cM (nI 0, s, n)).1 = 0 := by rw [cM_a (by decide)]; decide
    have e2 : (cM (nI 0, s, n)).2.1 = 0 ∧ (cM (nI 0, s, n)).2.2 = 0 := by rw [cM_a (by decide)]; decide
    rw [e1] at H
    obtain ⟨_, h1, h2⟩ := hs0_0 hS H
    rw [hL, r0] at h1
    refine ⟨h2, _, h1, ?_⟩
    rw [e2.1, e2.2]
    exact dec_eq _ _
  | 1, _ =>
    have e1 : (cM (nI 1, s, n)).1 = 0 := by rw [cM_a (by decide)]; decide
    have e2 : (cM (nI 1, s, n)).2.1 = 1 ∧ (cM (nI 1, s, n)).2.2 = 1 := by rw [cM_a (by decide)]; decide
    rw [e1] at H
    obtain ⟨_, h1, h2⟩ := hs0_0 hS H
    rw [hL, r0] at h1
    refine ⟨h2, _, h1, ?_⟩
    rw [e2.1, e2.2]
    exact dec_eq _ _
  | 2, _ =>
    have e1 : (cM (nI 2, s, n)).1 = 0 := by rw [cM_a (by decide)]; decide
    have e2 : (cM (nI 2, s, n)).2.1 = 2 ∧ (cM (nI 2, s, n)).2.2 = 2 := by rw [cM_a (by decide)]; decide
    rw [e1] at H
    obtain ⟨_, h1, h2⟩ := hs0_0 hS H
    rw [hL, r0] at h1
    refine ⟨h2, _, h1, ?_⟩
    rw [e2.1, e2.2]
    exact dec_eq _ _
  | 3, _ =>
    have e1 : (cM (nI 3, s, n)).1 = 0 := by rw [cM_a (by decide)]; decide
    have e2 : (cM (nI 3, s, n)).2.1 = 4 ∧ (cM (nI 3, s, n)).2.2 = 4 := by rw [cM_a (by decide)]; decide
    rw [e1] at H
    obtain ⟨_, h1, h2⟩ := hs0_0 hS H
    rw [hL, r0] at h1
    refine ⟨h2, _, h1, ?_⟩
    rw [e2.1, e2.2]
    exact dec_eq _ _
  | 4, _ =>
    have e1 : (cM (nI 4, s, n)).1 = 0 := by rw [cM_a (by decide)]; decide
    have e2 : (cM (nI 4, s, n)).2.1 = 5 ∧ (cM (nI 4, s, n)).2.2 = 5 := by rw [cM_a (by decide)]; decide
    rw [e1] at H
    obtain ⟨_, h1, h2⟩ := hs0_0 hS H
    rw [hL, r0] at h1
    refine ⟨h2, _, h1, ?_⟩
    rw [e2.1, e2.2]
    exact dec_eq _ _
  | 5, _ =>
    have e1 : (cM (nI 5, s, n)).1 = 1 := by rw [cM_a (by decide)]; decide
    have e2 : (cM (nI 5, s, n)).2.1 = 1 ∧ (cM (nI 5, s, n)).2.2 = 1 := by rw [cM_a (by decide)]; decide
    rw [e1] at H
    obtain ⟨_, h1, h2⟩ := hs1_0 hS H
    rw [hL, r1] at h1
    refine ⟨h2, _, h1, ?_⟩
    rw [e2.1, e2.2]
    exact dec_eq _ _
  | 6, _ =>
    have e1 : (cM (nI 6, s, n)).1 = 2 := by rw [cM_a (by decide)]; decide
    have e2 : (cM (nI 6, s, n)).2.1 = 1 ∧ (cM (nI 6, s, n)).2.2 = 1 := by rw [cM_a (by decide)]; decide
    rw [e1] at H
    rw [e2.1, e2.2]
    have et : trP g P c (nI 6, s, n) = decide (bdQ g ≤ cE P 3 c ∧ mdQ g ≤ cE P 4 c) := rfl
    rw [et]
    rcases hs2_0 hS H with ⟨a1, _, h1, h2⟩ | ⟨a1, a2, _, _, h1, h2⟩ | ⟨a1, a2, _, _, h1, h2⟩
    · rw [hL, r3, l1] at a1
      refine ⟨h2, _, h1, ?_⟩
      rw [decide_eq_false (fun q => absurd a1 (by rw [Int32.lt_iff_toInt_lt]; have := Int32.le_iff_toInt_le.mp q.1; omega))]
      rfl
    · rw [hL, r4, l2] at a2
      refine ⟨h2, _, h1, ?_⟩
      rw [decide_eq_false (fun q => absurd a2 (by rw [Int32.lt_iff_toInt_lt]; have := Int32.le_iff_toInt_le.mp q.2; omega))]
      rfl
    · rw [hL, r3, l1] at a1
      rw [hL, r4, l2] at a2
      refine ⟨h2, _, h1, ?_⟩
      rw [Int32.lt_iff_toInt_lt] at a1 a2
      rw [decide_eq_true ⟨Int32.le_iff_toInt_le.mpr (by omega), Int32.le_iff_toInt_le.mpr (by omega)⟩]
      rfl
  | 7, _ =>
    have e1 : (cM (nI 7, s, n)).1 = 3 := by rw [cM_a (by decide)]; decide
    have e2 : (cM (nI 7, s, n)).2.1 = 1 ∧ (cM (nI 7, s, n)).2.2 = 1 := by rw [cM_a (by decide)]; decide
    rw [e1] at H
    rw [e2.1, e2.2]
    have et : trP g P c (nI 7, s, n) = decide (bdQ g ≤ cE P 3 c) := rfl
    rw [et]
    rcases hs3_0 hS H with ⟨a1, _, h1, h2⟩ | ⟨a1, _, h1, h2⟩
    · rw [hL, r3, l1] at a1
      refine ⟨h2, _, h1, ?_⟩
      rw [decide_eq_false (fun q => absurd a1 (by rw [Int32.lt_iff_toInt_lt]; have := Int32.le_iff_toInt_le.mp q; omega))]
      rfl
    · rw [hL, r3, l1] at a1
      refine ⟨h2, _, h1, ?_⟩
      rw [Int32.lt_iff_toInt_lt] at a1
      rw [decide_eq_true (Int32.le_iff_toInt_le.mpr (by omega))]
      rfl
  | 8, _ =>
    obtain ⟨g1, g2, g3⟩ := hcmp (by decide)
    have e1 : (cM (nI 8, s, n)).1 = 4 := by rw [cM_c1 (by decide) (by decide)]; decide
    rw [e1] at H
    obtain ⟨_, h1, h2⟩ := hs4_0 hS H
    rw [hL, r3] at h1
    exact ⟨h2, _, h1, cmp_dec (by decide) (by decide) g1 n3 g2 g3⟩
  | 9, _ =>
    obtain ⟨g1, g2, g3⟩ := hcmp (by decide)
    have e1 : (cM (nI 9, s, n)).1 = 5 := by rw [cM_c1 (by decide) (by decide)]; decide
    rw [e1] at H
    obtain ⟨_, h1, h2⟩ := hs5_0 hS H
    rw [hL, r4] at h1
    exact ⟨h2, _, h1, cmp_dec (by decide) (by decide) g1 n4 g2 g3⟩
  | 10, _ =>
    obtain ⟨g1, g2, g3⟩ := hcmp (by decide)
    have e1 : (cM (nI 10, s, n)).1 = 6 := by rw [cM_c1 (by decide) (by decide)]; decide
    rw [e1] at H
    obtain ⟨_, h1, h2⟩ := hs6_0 hS H
    rw [hL, r2] at h1
    exact ⟨h2, _, h1, cmp_dec (by decide) (by decide) g1 n2 g2 g3⟩
  | 11, _ =>
    obtain ⟨g1, g2, g3⟩ := hcmp (by decide)
    have e1 : (cM (nI 11, s, n)).1 = 7 := by rw [cM_c1 (by decide) (by decide)]; decide
    rw [e1] at H
    obtain ⟨_, h1, h2⟩ := hs7_0 hS H
    rw [hL, r5] at h1
    exact ⟨h2, _, h1, cmp_dec (by decide) (by decide) g1 n5 g2 g3⟩
/-! the pile as bits -/
def BSt (sk : Int32) (st : List Bool) : Prop := ∀ i, i < 32 → sk.toBitVec.getLsbD i = (st[i]?).getD false
theorem one_bit : ∀ i, i < 32 → (1 : Int32).toBitVec.getLsbD i = decide (i = 0) := by decide
theorem zero_bit : ∀ i, i < 32 → (0 : Int32).toBitVec.getLsbD i = false := by decide
theorem m2_bit : ∀ i, i < 32 → (-2 : Int32).toBitVec.getLsbD i = !decide (i = 0) := by decide
theorem BSt.nil : BSt 0 [] := fun i hi => by
  rw [zero_bit i hi]
  rfl
theorem ush1 (x : Int32) : ((x.toUInt32 >>> ((1 : Int32).toUInt32 &&& Int32.toUInt32 31)).toInt32).toBitVec = x.toBitVec >>> 1 := by
  refine BitVec.eq_of_toNat_eq ?_
  rw [byt_u x 1 1 (by decide), BitVec.toNat_ushiftRight, Nat.shiftRight_eq_div_pow]
theorem shl1 (x : Int32) : (x <<< ((1 : Int32) &&& 31)).toBitVec = x.toBitVec <<< 1 := rfl
theorem ush1_bit {x : Int32} {i : Nat} : ((x.toUInt32 >>> ((1 : Int32).toUInt32 &&& Int32.toUInt32 31)).toInt32).toBitVec.getLsbD i = x.toBitVec.getLsbD (i + 1) := by
  rw [ush1, BitVec.getLsbD_ushiftRight, Nat.add_comm]
theorem hi_bit {x : Int32} : x.toBitVec.getLsbD 32 = false := BitVec.getLsbD_of_ge _ _ (Nat.le_refl _)
theorem BSt.nott {sk : Int32} {x : Bool} {st : List Bool} (h : BSt sk (x :: st)) : BSt (sk ^^^ 1) ((!x) :: st) := fun i hi => by
  have e : (sk ^^^ 1).toBitVec = sk.toBitVec ^^^ (1 : Int32).toBitVec := rfl
  rw [e, BitVec.getLsbD_xor, h i hi, one_bit i hi]
  cases i with
  | zero =>
    show (x ^^ true) = !x
    cases x <;> rfl
  | succ i =>
    show (((st[i]?).getD false) ^^ false) = (st[i]?).getD false
    rw [Bool.xor_false]
theorem BSt.lo {sk : Int32} {x : Bool} {st : List Bool} (h : BSt sk (x :: st)) : sk.toBitVec.getLsbD 0 = x := h 0 (by decide)
theorem BSt.nx {sk : Int32} {x : Bool} {st : List Bool} (h : BSt sk (x :: st)) (hl : st.length ≤ 31) {i : Nat} (hi : i < 32) : sk.toBitVec.getLsbD (i + 1) = (st[i]?).getD false := by
  by_cases h31 : i + 1 < 32
  · exact h (i + 1) h31
  · have e : i = 31 := by omega
    subst e
    rw [hi_bit, List.getElem?_eq_none (by omega)]
    rfl
theorem top_bit {sk : Int32} {i : Nat} (hi : i < 32) : (sk &&& 1).toBitVec.getLsbD i = (decide (i = 0) && sk.toBitVec.getLsbD 0) := by
  have e : (sk &&& 1).toBitVec = sk.toBitVec &&& (1 : Int32).toBitVec := rfl
  rw [e, BitVec.getLsbD_and, one_bit i hi]
  cases i with
  | zero => rw [decide_eq_true rfl, Bool.and_true, Bool.true_and]
  | succ i => rw [decide_eq_false (by omega), Bool.and_false, Bool.false_and]
theorem BSt.orr {sk : Int32} {x y : Bool} {st : List Bool} (h : BSt sk (y :: x :: st)) (hl : st.length ≤ 30) : BSt (((sk.toUInt32 >>> ((1 : Int32).toUInt32 &&& Int32.toUInt32 31)).toInt32) ||| (sk &&& 1)) ((x || y) :: st) := fun i hi => by
  have e : ∀ a b : Int32, (a ||| b).toBitVec = a.toBitVec ||| b.toBitVec := fun _ _ => rfl
  rw [e, BitVec.getLsbD_or, ush1_bit, top_bit hi, h.lo, h.nx (by exact Nat.succ_le_succ hl) hi]
  cases i with
  | zero => rw [decide_eq_true rfl, Bool.true_and]; rfl
  | succ i => rw [decide_eq_false (by omega), Bool.false_and, Bool.or_false]; rfl
theorem BSt.andd {sk : Int32} {x y : Bool} {st : List Bool} (h : BSt sk (y :: x :: st)) (hl : st.length ≤ 30) : BSt (((sk.toUInt32 >>> ((1 : Int32).toUInt32 &&& Int32.toUInt32 31)).toInt32) &&& ((-2) ||| (sk &&& 1))) ((x && y) :: st) := fun i hi => by
  have e : ∀ a b : Int32, (a &&& b).toBitVec = a.toBitVec &&& b.toBitVec := fun _ _ => rfl
  have e2 : ∀ a b : Int32, (a ||| b).toBitVec = a.toBitVec ||| b.toBitVec := fun _ _ => rfl
  rw [e, BitVec.getLsbD_and, ush1_bit, e2, BitVec.getLsbD_or, m2_bit i hi, top_bit hi, h.lo, h.nx (by exact Nat.succ_le_succ hl) hi]
  cases i with
  | zero => rw [decide_eq_true rfl, Bool.true_and]; rfl
  | succ i => rw [decide_eq_false (by omega), Bool.false_and, Bool.or_false, Bool.not_false, Bool.and_true]; rfl
theorem BSt.push {sk : Int32} {st : List Bool} (h : BSt sk st) {z : Int32} {x : Bool} (hz : (z = 1 ∧ x = true) ∨ (z = 0 ∧ x = false)) : BSt ((sk <<< ((1 : Int32) &&& 31)) ||| z) (x :: st) := fun i hi => by
  have e2 : ∀ a b : Int32, (a ||| b).toBitVec = a.toBitVec ||| b.toBitVec := fun _ _ => rfl
  rw [e2, shl1, BitVec.getLsbD_or, BitVec.getLsbD_shiftLeft]
  have hz2 : z.toBitVec.getLsbD i = (decide (i = 0) && x) := by
    rcases hz with ⟨rfl, rfl⟩ | ⟨rfl, rfl⟩
    · rw [one_bit i hi, Bool.and_true]
    · rw [zero_bit i hi, Bool.and_false]
  rw [hz2]
  cases i with
  | zero => simp
  | succ i =>
    rw [decide_eq_true hi, decide_eq_false (by omega : ¬ i + 1 < 1), decide_eq_false (by omega : ¬ i + 1 = 0), Bool.false_and, Bool.or_false, Bool.true_and, Bool.not_false, Bool.true_and, Nat.add_sub_cancel, h i (by omega)]
    rfl
theorem BSt.ans {sk : Int32} {x : Bool} {st : List Bool} (h : BSt sk (x :: st)) : (sk &&& 1) = 1 ↔ x = true := by
  have h0 := h.lo
  constructor
  · intro hq
    have h1 := top_bit (sk := sk) (i := 0) (by decide)
    rw [hq, h0] at h1
    have h2 : (1 : Int32).toBitVec.getLsbD 0 = true := by decide
    rw [h2, decide_eq_true rfl, Bool.true_and] at h1
    exact h1.symm
  · intro hx
    refine Int32.toBitVec_inj.mp (BitVec.eq_of_getLsbD_eq (fun i hi => ?_))
    rw [top_bit hi, one_bit i hi, h0, hx, Bool.and_true]
/-- the answer of a question -/
def bI (b : Bool) : Int32 := bif b then 1 else 0
theorem hold_loop (hV : CV L g P M) (ht : gNth sT t = some 28) (hq : CC M t q.1.2.2) (hc : inC P c) (hn : nnC P c) {i : Int32} {to : Nat} (hto : (rI M (t + 5) i).toInt = (to : Int)) (h96 : to ≤ 96) : ∀ (cs : List Cdq) (j : Nat) (st : List Bool) (sk n : Int32) (c6 c7 c8 : Option Value), (∀ a cd, cs[a]? = some cd → q.1.2.2[j + a]? = some cd) → n.toInt = (j : Int) → j + cs.length = to → okC cs st.length → st.length ≤ 32 → BSt sk st → Ev none e 70 28 [some (.ref 104), some (.ref t), some (.int i), some (.int c), some (.int sk), some (.int n), c6, c7, c8] [] M v M' 0 0 → M' = M ∧ v = some (.int (bI ((evC (trP g P c) cs st).headD true))) := by
  have hS := hV.1
  have h9 : (96 : Int32).toInt = 96 := rfl
  intro cs
  induction cs with
  | nil =>
    intro j st sk n c6 c7 c8 _ hj hlen hok hl hB H
    have hlen : j + 0 = to := hlen
    have hok : st.length = 1 := hok
    obtain ⟨x, rfl⟩ := List.length_eq_one_iff.mp hok
    have fin : Ev none e 70 169 [some (.ref 104), some (.ref t), some (.int i), some (.int c), some (.int sk), some (.int n), c6, c7, c8] [] M v M' 0 0 → M' = M ∧ v = some (.int (bI ((evC (trP g P c) [] [x]).headD true))) := fun H => by
      rcases hw_169 hS ht H with ⟨a1, h1, h2⟩ | ⟨a1, h1, h2⟩
      · have hx := hB.ans.mp a1
        subst hx
        exact ⟨h2, h1⟩
      · have hx : x = false := by
          cases x with
          | false => rfl
          | true => exact absurd (hB.ans.mpr rfl) a1
        subst hx
        exact ⟨h2, h1⟩
    rcases hw_28 hS ht H with ⟨_, _, H⟩ | ⟨_, _, _, H⟩ | ⟨a1, _⟩ | ⟨a1, _⟩ | ⟨a1, _⟩ | ⟨a1, _⟩
    · exact fin H
    · exact fin H
    all_goals exact absurd (Int32.le_iff_toInt_le.mpr (by omega)) a1
  | cons cd cs ih =>
    intro j st sk n c6 c7 c8 hcs hj hlen hok hl hB H
    have hlen : j + (cs.length + 1) = to := hlen
    have hjt : ¬ (rI M (t + 5) i) ≤ n := fun q => by
      have := Int32.le_iff_toInt_le.mp q
      omega
    have hn96 : ¬ 96 ≤ n := fun q => by
      have := Int32.le_iff_toInt_le.mp q
      omega
    have hn1 : (n + 1).toInt = ((j + 1 : Nat) : Int) := by
      rw [i32_p1 (by omega)]
      omega
    have hcd : q.1.2.2[j]? = some cd := hcs 0 cd rfl
    obtain ⟨k1, k2, k3⟩ := hq.2.2 j cd hcd
    rw [← rI_n hj] at k1 k2 k3
    have hcs2 : ∀ a cd, cs[a]? = some cd → q.1.2.2[j + 1 + a]? = some cd := fun a cd h => by
      have := hcs (a + 1) cd h
      rw [show j + 1 + a = j + (a + 1) from by omega]
      exact this
    by_cases c20 : cd.1 = 20
    · have hm : (cM cd).1 = 8 := by
        unfold cM
        rw [if_pos c20]
      have hok : (if cd.1 = 20 then 1 ≤ st.length ∧ okC cs st.length else _) := hok
      rw [if_pos c20] at hok
      obtain ⟨o1, o2⟩ := hok
      cases st with
      | nil => exact absurd o1 (by decide)
      | cons x st =>
        have he : evC (trP g P c) (cd :: cs) (x :: st) = evC (trP g P c) cs ((!x) :: st) := by
          show evC (trP g P c) cs (if cd.1 = 20 then _ else _) = _
          rw [if_pos c20]
        rw [he]
        rcases hw_28 hS ht H with ⟨a1, _⟩ | ⟨_, a1, _⟩ | ⟨_, _, _, _, _, H⟩ | ⟨_, _, a1, _⟩ | ⟨_, _, a1, _⟩ | ⟨_, _, a1, _⟩
        · exact absurd a1 hjt
        · exact absurd a1 hn96
        · exact ih (j + 1) _ _ _ _ _ _ hcs2 hn1 (by omega) o2 hl hB.nott H
        all_goals exact absurd (k1.trans hm) a1
    · by_cases c21 : cd.1 = 21
      · have hm : (cM cd).1 = 9 := by
          unfold cM
          rw [if_neg c20, if_pos c21]
        have hok : (if cd.1 = 20 then _ else if cd.1 = 21 ∨ cd.1 = 22 then 2 ≤ st.length ∧ okC cs (st.length - 1) else _) := hok
        rw [if_neg c20, if_pos (Or.inl c21)] at hok
        obtain ⟨o1, o2⟩ := hok
        match st, o1, o2, hl, hB with
        | y :: x :: st, _, o2, hl, hB =>
          have he : evC (trP g P c) (cd :: cs) (y :: x :: st) = evC (trP g P c) cs ((x && y) :: st) := by
            show evC (trP g P c) cs (if cd.1 = 20 then _ else if cd.1 = 21 then _ else _) = _
            rw [if_neg c20, if_pos c21]
          rw [he]
          have hl : st.length + 2 ≤ 32 := hl
          rcases hw_28 hS ht H with ⟨a1, _⟩ | ⟨_, a1, _⟩ | ⟨_, _, a1, _⟩ | ⟨_, _, _, a1, _⟩ | ⟨_, _, _, _, _, _, _, H⟩ | ⟨_, _, _, _, a1, _⟩
          · exact absurd a1 hjt
          · exact absurd a1 hn96
          · exact absurd ((k1.trans hm).symm.trans a1) (by decide)
          · exact absurd ((k1.trans hm).symm.trans a1) (by decide)
          · exact ih (j + 1) _ _ _ _ _ _ hcs2 hn1 (by omega) o2 (by show st.length + 1 ≤ 32; omega) (hB.andd (by omega)) H
          · exact absurd (k1.trans hm) a1
      · by_cases c22 : cd.1 = 22
        · have hm : (cM cd).1 = 10 := by
            unfold cM
            rw [if_neg c20, if_neg c21, if_pos c22]
          have hok : (if cd.1 = 20 then _ else if cd.1 = 21 ∨ cd.1 = 22 then 2 ≤ st.length ∧ okC cs (st.length - 1) else _) := hok
          rw [if_neg c20, if_pos (Or.inr c22)] at hok
          obtain ⟨o1, o2⟩ := hok
          match st, o1, o2, hl, hB with
          | y :: x :: st, _, o2, hl, hB =>
            have he : evC (trP g P c) (cd :: cs) (y :: x :: st) = evC (trP g P c) cs ((x || y) :: st) := by
              show evC (trP g P c) cs (if cd.1 = 20 then _ else if cd.1 = 21 then _ else if cd.1 = 22 then _ else _) = _
              rw [if_neg c20, if_neg c21, if_pos c22]
            rw [he]
            have hl : st.length + 2 ≤ 32 := hl
            rcases hw_28 hS ht H with ⟨a1, _⟩ | ⟨_, a1, _⟩ | ⟨_, _, a1, _⟩ | ⟨_, _, _, _, _, _, H⟩ | ⟨_, _, _, a1, _⟩ | ⟨_, _, _, a1, _⟩
            · exact absurd a1 hjt
            · exact absurd a1 hn96
            · exact absurd ((k1.trans hm).symm.trans a1) (by decide)
            · exact ih (j + 1) _ _ _ _ _ _ hcs2 hn1 (by omega) o2 (by show st.length + 1 ≤ 32; omega) (hB.orr (by omega)) H
            · exact absurd (k1.trans hm) a1
            · exact absurd (k1.trans hm) a1
        · have hok : (if cd.1 = 20 then _ else if cd.1 = 21 ∨ cd.1 = 22 then _ else atC cd ∧ st.length < 32 ∧ okC cs (st.length + 1)) := hok
          rw [if_neg c20, if_neg (fun q => q.elim c21 c22)] at hok
          obtain ⟨o1, o2, o3⟩ := hok
          have he : evC (trP g P c) (cd :: cs) st = evC (trP g P c) cs (trP g P c cd :: st) := by
            show evC (trP g P c) cs (if cd.1 = 20 then _ else if cd.1 = 21 then _ else if cd.1 = 22 then _ else _) = _
            rw [if_neg c20, if_neg c21, if_neg c22]
          rw [he]
          have hsm := cM_sm o1
          rcases hw_28 hS ht H with ⟨a1, _⟩ | ⟨_, a1, _⟩ | ⟨_, _, a1, _⟩ | ⟨_, _, _, a1, _⟩ | ⟨_, _, _, _, a1, _⟩ | ⟨_, _, _, _, _, _, _, e1, v1, M1, rfl, H1, H⟩
          · exact absurd a1 hjt
          · exact absurd a1 hn96
          · exact absurd (k1.symm.trans a1) hsm.1
          · exact absurd (k1.symm.trans a1) hsm.2.2
          · exact absurd (k1.symm.trans a1) hsm.2.1
          · rw [k1] at H1
            obtain ⟨rfl, y, rfl, hy⟩ := asked_ok hV hc hn o1 H1
            rcases hw_125 hS ht H with ⟨a1, _, H⟩ | ⟨_, a1, _, _, H⟩ | ⟨a1, a2, _, _, H⟩
            · rw [k2] at a1
              refine ih (j + 1) _ _ _ _ _ _ hcs2 hn1 (by omega) o3 (by show st.length + 1 ≤ 32; omega) (hB.push (Or.inr ⟨rfl, ?_⟩)) H
              rw [hy, decide_eq_false (fun q => q.1 a1)]
            · rw [k3] at a1
              refine ih (j + 1) _ _ _ _ _ _ hcs2 hn1 (by omega) o3 (by show st.length + 1 ≤ 32; omega) (hB.push (Or.inr ⟨rfl, ?_⟩)) H
              rw [hy, decide_eq_false (fun q => q.2 a1)]
            · rw [k2] at a1
              rw [k3] at a2
              refine ih (j + 1) _ _ _ _ _ _ hcs2 hn1 (by omega) o3 (by show st.length + 1 ≤ 32; omega) (hB.push (Or.inl ⟨rfl, ?_⟩)) H
              rw [hy, decide_eq_true ⟨a1, a2⟩]
/-- a line of a text: its COND holds -/
theorem holds_ok (hV : CV L g P M) (ht : gNth sT t = some 28) (hq : TXT M t q) (hw : LW q) (hc : inC P c) (hn : nnC P c) {i : Int32} {j : Nat} {l : Lnq} (hi : i.toInt = (j : Int)) (hl : q.2[j]? = some l) (H : Ev none e 70 0 [some (.ref 104), some (.ref t), some (.int i), some (.int c), none, none, none, none, none] [] M v M' 0 0) : M' = M ∧ v = some (.int (bI (hldP g P q l c))) := by
  have hS := hV.1
  obtain ⟨k1, k2, k3, k4, k5⟩ := hq.1.2.2 j l hl
  rw [← rI_n hi] at k4 k5
  obtain ⟨_, w1, w2, w3⟩ := hw l (List.mem_of_getElem? hl)
  have h96 := hq.2.1.2.1
  unfold hldP
  rcases hw_0 hS ht H with ⟨a1, _, _, h1, h2⟩ | ⟨a1, _, _, _, H⟩
  · have : l.2.2.2.1 = l.2.2.2.2 := by
      have := congrArg Int32.toInt a1
      omega
    rw [if_pos this]
    exact ⟨h2, h1⟩
  · have hne : ¬ l.2.2.2.1 = l.2.2.2.2 := fun q => a1 (Int32.toInt_inj.mp (by omega))
    rw [if_neg hne]
    have hok : okC (segC q l) 0 := by
      rcases w3 with w3 | ⟨k, e1, e2⟩
      · exact absurd w3 hne
      · exact e2.ok (by omega)
    have hlen : (segC q l).length = l.2.2.2.2 - l.2.2.2.1 := by
      unfold segC
      rw [List.length_take, List.length_drop]
      omega
    refine hold_loop hV ht hq.2.1 hc hn k5 (by omega) (segC q l) l.2.2.2.1 [] 0 _ none none none (fun a cd h => ?_) k4 (by omega) hok (by decide) BSt.nil H
    unfold segC at h
    rw [List.getElem?_take] at h
    split at h
    · rw [List.getElem?_drop] at h
      exact h
    · cases h
end HLD
/-! THE CLASS'S walking: pieces (made by gwal.py) -/
noncomputable def G_6 (M : Mem) (L : Nat) : Int32 := (zI M L 0) * (zI M L 1)
theorem g_6 {e : Nat} {M M' : Mem} {v : Option Value} {L : Nat} (hS : SQ M) (a_L : gNth sT L = some 8) (H : Ev none e 6 0 [some (.ref L)] [] M v M' 0 0) : v = some (.int (G_6 M L)) ∧ M' = M := by
  unfold G_6
  have H : Ev none e 6 1 [some (.ref L)] [.ref L] M v M' 0 0 := Ev.back 1 (fun n => rfl) H
  have H : Ev none e 6 4 [some (.ref L)] [.int (zI M L 0)] M v M' 0 0 := Ev.back 1 (gs_3 rfl rfl (gf_i hS.1 a_L qi_8_0 rfl)) H
  have H : Ev none e 6 5 [some (.ref L)] [.ref L, .int (zI M L 0)] M v M' 0 0 := Ev.back 1 (fun n => rfl) H
  have H : Ev none e 6 8 [some (.ref L)] [.int (zI M L 1), .int (zI M L 0)] M v M' 0 0 := Ev.back 1 (gs_3 rfl rfl (gf_i hS.1 a_L qi_8_1 rfl)) H
  have H : Ev none e 6 9 [some (.ref L)] [.int ((zI M L 0) * (zI M L 1))] M v M' 0 0 := Ev.back 1 (fun n => rfl) H
  obtain ⟨p1, p2⟩ := Ev.retz rfl rfl H
  exact ⟨p1, p2⟩
noncomputable def G_7 (M : Mem) (L : Nat) (c : Int32) : Int32 := if (rI M (L + 1) c) = 3 then 0 else (if (rI M (L + 1) c) = 6 then 0 else 1)
theorem g_7 {e : Nat} {M M' : Mem} {v : Option Value} {c : Int32} {L : Nat} (hS : SQ M) (a_L : gNth sT L = some 8) (H : Ev none e 7 0 [some (.ref L), some (.int c)] [] M v M' 0 0) : v = some (.int (G_7 M L c)) ∧ M' = M := by
  unfold G_7
  have H : Ev none e 7 1 [some (.ref L), some (.int c)] [.ref L] M v M' 0 0 := Ev.back 1 (fun n => rfl) H
  have H : Ev none e 7 4 [some (.ref L), some (.int c)] [.ref (L + 1)] M v M' 0 0 := Ev.back 1 (gs_3 rfl rfl (gf_x hS.1 a_L qo_8 (fx_l2 hS a_L) rfl)) H
  have H : Ev none e 7 5 [some (.ref L), some (.int c)] [.int c, .ref (L + 1)] M v M' 0 0 := Ev.back 1 (fun n => rfl) H
  obtain ⟨b1, H⟩ := Ev.ial rfl rfl hS.1 (fx_h2 a_L) qw_9 H
  have H : Ev none e 7 6 [some (.ref L), some (.int c)] [.int (rI M (L + 1) c)] M v M' 0 0 := H
  have H : Ev none e 7 (if (rI M (L + 1) c) = 3 then 25 else 10) [some (.ref L), some (.int c)] [] M v M' 0 0 := Ev.back 2 (fun n => rfl) H
  by_cases h2 : (rI M (L + 1) c) = 3
  · rw [if_pos h2] at H
    have H : Ev none e 7 26 [some (.ref L), some (.int c)] [.int 0] M v M' 0 0 := Ev.back 1 (fun n => rfl) H
    obtain ⟨p1, p2⟩ := Ev.retz rfl rfl H
    exact ⟨by rw [if_pos h2]; exact p1, p2⟩
  · rw [if_neg h2] at H
    have H : Ev none e 7 11 [some (.ref L), some (.int c)] [.ref L] M v M' 0 0 := Ev.back 1 (fun n => rfl) H
    have H : Ev none e 7 14 [some (.ref L), some (.int c)] [.ref (L + 1)] M v M' 0 0 := Ev.back 1 (gs_3 rfl rfl (gf_x hS.1 a_L qo_8 (fx_l2 hS a_L) rfl)) H
    have H : Ev none e 7 15 [some (.ref L), some (.int c)] [.int c, .ref (L + 1)] M v M' 0 0 := Ev.back 1 (fun n => rfl) H
    obtain ⟨b3, H⟩ := Ev.ial rfl rfl hS.1 (fx_h2 a_L) qw_9 H
    have H : Ev none e 7 16 [some (.ref L), some (.int c)] [.int (rI M (L + 1) c)] M v M' 0 0 := H
    have H : Ev none e 7 (if (rI M (L + 1) c) = 6 then 25 else 21) [some (.ref L), some (.int c)] [] M v M' 0 0 := Ev.back 2 (fun n => rfl) H
    by_cases h4 : (rI M (L + 1) c) = 6
    · rw [if_pos h4] at H
      have H : Ev none e 7 26 [some (.ref L), some (.int c)] [.int 0] M v M' 0 0 := Ev.back 1 (fun n => rfl) H
      obtain ⟨p1, p2⟩ := Ev.retz rfl rfl H
      exact ⟨by rw [if_neg h2, if_pos h4]; exact p1, p2⟩
    · rw [if_neg h4] at H
      have H : Ev none e 7 26 [some (.ref L), some (.int c)] [.int 1] M v M' 0 0 := Ev.back 2 (fun n => rfl) H
      obtain ⟨p1, p2⟩ := Ev.retz rfl rfl H
      exact ⟨by rw [if_neg h2, if_neg h4]; exact p1, p2⟩
noncomputable def G_8 (M : Mem) (L : Nat) (c : Int32) : Int32 := if (rI M (L + 1) c) = 0 then 1 else (if (rI M (L + 1) c) = 2 then 1 else 0)
theorem g_8 {e : Nat} {M M' : Mem} {v : Option Value} {c : Int32} {L : Nat} (hS : SQ M) (a_L : gNth sT L = some 8) (H : Ev none e 8 0 [some (.ref L), some (.int c)] [] M v M' 0 0) : v = some (.int (G_8 M L c)) ∧ M' = M := by
  unfold G_8
  have H : Ev none e 8 1 [some (.ref L), some (.int c)] [.ref L] M v M' 0 0 := Ev.back 1 (fun n => rfl) H
  have H : Ev none e 8 4 [some (.ref L), some (.int c)] [.ref (L + 1)] M v M' 0 0 := Ev.back 1 (gs_3 rfl rfl (gf_x hS.1 a_L qo_8 (fx_l2 hS a_L) rfl)) H
  have H : Ev none e 8 5 [some (.ref L), some (.int c)] [.int c, .ref (L + 1)] M v M' 0 0 := Ev.back 1 (fun n => rfl) H
  obtain ⟨b1, H⟩ := Ev.ial rfl rfl hS.1 (fx_h2 a_L) qw_9 H
  have H : Ev none e 8 6 [some (.ref L), some (.int c)] [.int (rI M (L + 1) c)] M v M' 0 0 := H
  have H : Ev none e 8 (if (rI M (L + 1) c) = 0 then 19 else 9) [some (.ref L), some (.int c)] [] M v M' 0 0 := Ev.back 1 (fun n => rfl) H
  by_cases h2 : (rI M (L + 1) c) = 0
  · rw [if_pos h2] at H
    have H : Ev none e 8 24 [some (.ref L), some (.int c)] [.int 1] M v M' 0 0 := Ev.back 2 (fun n => rfl) H
    obtain ⟨p1, p2⟩ := Ev.retz rfl rfl H
    exact ⟨by rw [if_pos h2]; exact p1, p2⟩
  · rw [if_neg h2] at H
    have H : Ev none e 8 10 [some (.ref L), some (.int c)] [.ref L] M v M' 0 0 := Ev.back 1 (fun n => rfl) H
    have H : Ev none e 8 13 [some (.ref L), some (.int c)] [.ref (L + 1)] M v M' 0 0 := Ev.back 1 (gs_3 rfl rfl (gf_x hS.1 a_L qo_8 (fx_l2 hS a_L) rfl)) H
    have H : Ev none e 8 14 [some (.ref L), some (.int c)] [.int c, .ref (L + 1)] M v M' 0 0 := Ev.back 1 (fun n => rfl) H
    obtain ⟨b3, H⟩ := Ev.ial rfl rfl hS.1 (fx_h2 a_L) qw_9 H
    have H : Ev none e 8 15 [some (.ref L), some (.int c)] [.int (rI M (L + 1) c)] M v M' 0 0 := H
    have H : Ev none e 8 (if (rI M (L + 1) c) = 2 then 19 else 23) [some (.ref L), some (.int c)] [] M v M' 0 0 := Ev.back 2 (fun n => rfl) H
    by_cases h4 : (rI M (L + 1) c) = 2
    · rw [if_pos h4] at H
      have H : Ev none e 8 24 [some (.ref L), some (.int c)] [.int 1] M v M' 0 0 := Ev.back 2 (fun n => rfl) H
      obtain ⟨p1, p2⟩ := Ev.retz rfl rfl H
      exact ⟨by rw [if_neg h2, if_pos h4]; exact p1, p2⟩
    · rw [if_neg h4] at H
      have H : Ev none e 8 24 [some (.ref L), some (.int c)] [.int 0] M v M' 0 0 := Ev.back 1 (fun n => rfl) H
      obtain ⟨p1, p2⟩ := Ev.retz rfl rfl H
      exact ⟨by rw [if_neg h2, if_neg h4]; exact p1, p2⟩
noncomputable def G_56 (M : Mem) (c : Int32) : Int32 := if (rI M (fR M 104 7 + 4) c) < (zI M (fR M 104 2) 10) then 0 else 1
theorem g_56 {e : Nat} {M M' : Mem} {v : Option Value} {c : Int32} (hS : SQ M) (H : Ev none e 56 0 [some (.ref 104), some (.int c)] [] M v M' 0 0) : v = some (.int (G_56 M c)) ∧ M' = M := by
  unfold G_56
  have H : Ev none e 56 1 [some (.ref 104), some (.int c)] [.ref 104] M v M' 0 0 := Ev.back 1 (fun n => rfl) H
  have H : Ev none e 56 4 [some (.ref 104), some (.int c)] [.ref (fR M 104 7)] M v M' 0 0 := Ev.back 1 (gs_3 rfl rfl (gf_r hS.1 qa_104 qr_22_7 rfl)) H
  have H : Ev none e 56 7 [some (.ref 104), some (.int c)] [.ref (fR M 104 7 + 4)] M v M' 0 0 := Ev.back 1 (gs_3 rfl rfl (gf_x hS.1 (hS.1.fr qa_104 qr_22_7).2 qo_8 (fx_l5 hS (hS.1.fr qa_104 qr_22_7).2) rfl)) H
  have H : Ev none e 56 8 [some (.ref 104), some (.int c)] [.int c, .ref (fR M 104 7 + 4)] M v M' 0 0 := Ev.back 1 (fun n => rfl) H
  obtain ⟨b1, H⟩ := Ev.ial rfl rfl hS.1 (fx_h5 (hS.1.fr qa_104 qr_22_7).2) qw_12 H
  have H : Ev none e 56 9 [some (.ref 104), some (.int c)] [.int (rI M (fR M 104 7 + 4) c)] M v M' 0 0 := H
  have H : Ev none e 56 10 [some (.ref 104), some (.int c)] [.ref 104, .int (rI M (fR M 104 7 + 4) c)] M v M' 0 0 := Ev.back 1 (fun n => rfl) H
  have H : Ev none e 56 13 [some (.ref 104), some (.int c)] [.ref (fR M 104 2), .int (rI M (fR M 104 7 + 4) c)] M v M' 0 0 := Ev.back 1 (gs_3 rfl rfl (gf_r hS.1 qa_104 qr_22_2 rfl)) H
  have H : Ev none e 56 16 [some (.ref 104), some (.int c)] [.int (zI M (fR M 104 2) 10), .int (rI M (fR M 104 7 + 4) c)] M v M' 0 0 := Ev.back 1 (gs_3 rfl rfl (gf_i hS.1 (hS.1.fr qa_104 qr_22_2).2 qi_28_10 rfl)) H
  have H : Ev none e 56 (if (rI M (fR M 104 7 + 4) c) < (zI M (fR M 104 2) 10) then 23 else 19) [some (.ref 104), some (.int c)] [] M v M' 0 0 := Ev.back 1 (fun n => rfl) H
  by_cases h2 : (rI M (fR M 104 7 + 4) c) < (zI M (fR M 104 2) 10)
  · rw [if_pos h2] at H
    have H : Ev none e 56 24 [some (.ref 104), some (.int c)] [.int 0] M v M' 0 0 := Ev.back 1 (fun n => rfl) H
    obtain ⟨p1, p2⟩ := Ev.retz rfl rfl H
    exact ⟨by rw [if_pos h2]; exact p1, p2⟩
  · rw [if_neg h2] at H
    have H : Ev none e 56 24 [some (.ref 104), some (.int c)] [.int 1] M v M' 0 0 := Ev.back 2 (fun n => rfl) H
    obtain ⟨p1, p2⟩ := Ev.retz rfl rfl H
    exact ⟨by rw [if_neg h2]; exact p1, p2⟩
theorem fnb_0 {e : Nat} {M M' : Mem} {v : Option Value} {wh c wo : Int32} (hS : SQ M) (H : Ev none e 64 0 [some (.ref 104), some (.int wh), some (.int c), some (.int wo), none] [] M v M' 0 0) : Ev none e 64 3 [some (.ref 104), some (.int wh), some (.int c), some (.int wo), some (.int 0)] [] M v M' 0 0 := by
  have H : Ev none e 64 3 [some (.ref 104), some (.int wh), some (.int c), some (.int wo), some (.int 0)] [] M v M' 0 0 := Ev.back 2 (fun n => rfl) H
  have HF := H
  exact HF
theorem fnb_3 {e : Nat} {M M' : Mem} {v : Option Value} {wh c wo i : Int32} (hS : SQ M) (H : Ev none e 64 3 [some (.ref 104), some (.int wh), some (.int c), some (.int wo), some (.int i)] [] M v M' 0 0) : ((zI M (fR M 104 2) 8) ≤ i ∧ v = some (.int wo) ∧ M' = M) ∨ (¬ ((zI M (fR M 104 2) 8) ≤ i) ∧ (rI M (fR M 104 2 + 1) i) = wh ∧ (0 ≤ i.toInt ∧ i.toInt < 16) ∧ (∃ e1 v1 M1, e = e1 + 1 ∧ Ev none e1 70 0 [some (.ref 104), some (.ref (fR M 104 2)), some (.int i), some (.int c), none, none, none, none, none] [] M v1 M1 0 0 ∧ Ev none e 64 40 [some (.ref 104), some (.int wh), some (.int c), some (.int wo), some (.int i)] (v1.toList ++ []) M1 v M' 0 0)) ∨ (¬ ((zI M (fR M 104 2) 8) ≤ i) ∧ ¬ ((rI M (fR M 104 2 + 1) i) = wh) ∧ (0 ≤ i.toInt ∧ i.toInt < 16) ∧ Ev none e 64 3 [some (.ref 104), some (.int wh), some (.int c), some (.int wo), some (.int (i + 1))] [] M v M' 0 0) := by
  have H : Ev none e 64 6 [some (.ref 104), some (.int wh), some (.int c), some (.int wo), some (.int i)] [.ref 104, .int i] M v M' 0 0 := Ev.back 2 (fun n => rfl) H
  have H : Ev none e 64 9 [some (.ref 104), some (.int wh), some (.int c), some (.int wo), some (.int i)] [.ref (fR M 104 2), .int i] M v M' 0 0 := Ev.back 1 (gs_3 rfl rfl (gf_r hS.1 qa_104 qr_22_2 rfl)) H
  have H : Ev none e 64 12 [some (.ref 104), some (.int wh), some (.int c), some (.int wo), some (.int i)] [.int (zI M (fR M 104 2) 8), .int i] M v M' 0 0 := Ev.back 1 (gs_3 rfl rfl (gf_i hS.1 (hS.1.fr qa_104 qr_22_2).2 qi_28_8 rfl)) H
  have H : Ev none e 64 (if (zI M (fR M 104 2) 8) ≤ i then 60 else 15) [some (.ref 104), some (.int wh), some (.int c), some (.int wo), some (.int i)] [] M v M' 0 0 := Ev.back 1 (fun n => rfl) H
  by_cases h1 : (zI M (fR M 104 2) 8) ≤ i
  · rw [if_pos h1] at H
    have H : Ev none e 64 61 [some (.ref 104), some (.int wh), some (.int c), some (.int wo), some (.int i)] [.int wo] M v M' 0 0 := Ev.back 1 (fun n => rfl) H
    obtain ⟨z1, z2⟩ := Ev.retz rfl rfl H
    exact Or.inl ⟨h1, z1, z2⟩
  · rw [if_neg h1] at H
    have H : Ev none e 64 16 [some (.ref 104), some (.int wh), some (.int c), some (.int wo), some (.int i)] [.ref 104] M v M' 0 0 := Ev.back 1 (fun n => rfl) H
    have H : Ev none e 64 19 [some (.ref 104), some (.int wh), some (.int c), some (.int wo), some (.int i)] [.ref (fR M 104 2)] M v M' 0 0 := Ev.back 1 (gs_3 rfl rfl (gf_r hS.1 qa_104 qr_22_2 rfl)) H
    have H : Ev none e 64 22 [some (.ref 104), some (.int wh), some (.int c), some (.int wo), some (.int i)] [.ref (fR M 104 2 + 1)] M v M' 0 0 := Ev.back 1 (gs_3 rfl rfl (gf_x hS.1 (hS.1.fr qa_104 qr_22_2).2 qo_28 (fx_t0 hS (hS.1.fr qa_104 qr_22_2).2) rfl)) H
    have H : Ev none e 64 24 [some (.ref 104), some (.int wh), some (.int c), some (.int wo), some (.int i)] [.int i, .ref (fR M 104 2 + 1)] M v M' 0 0 := Ev.back 1 (fun n => rfl) H
    obtain ⟨b2, H⟩ := Ev.ial rfl rfl hS.1 (fx_g0 (hS.1.fr qa_104 qr_22_2).2) qw_29 H
    have H : Ev none e 64 25 [some (.ref 104), some (.int wh), some (.int c), some (.int wo), some (.int i)] [.int (rI M (fR M 104 2 + 1) i)] M v M' 0 0 := H
    have H : Ev none e 64 (if (rI M (fR M 104 2 + 1) i) = wh then 29 else 54) [some (.ref 104), some (.int wh), some (.int c), some (.int wo), some (.int i)] [] M v M' 0 0 := Ev.back 2 (fun n => rfl) H
    by_cases h3 : (rI M (fR M 104 2 + 1) i) = wh
    · rw [if_pos h3] at H
      have H : Ev none e 64 31 [some (.ref 104), some (.int wh), some (.int c), some (.int wo), some (.int i)] [.ref 104, .ref 104] M v M' 0 0 := Ev.back 2 (fun n => rfl) H
      have H : Ev none e 64 34 [some (.ref 104), some (.int wh), some (.int c), some (.int wo), some (.int i)] [.ref (fR M 104 2), .ref 104] M v M' 0 0 := Ev.back 1 (gs_3 rfl rfl (gf_r hS.1 qa_104 qr_22_2 rfl)) H
      have H : Ev none e 64 37 [some (.ref 104), some (.int wh), some (.int c), some (.int wo), some (.int i)] [.int c, .int i, .ref (fR M 104 2), .ref 104] M v M' 0 0 := Ev.back 2 (fun n => rfl) H
      obtain ⟨e1, rfl⟩ := Ev.dpos rfl rfl H
      obtain ⟨vK4, MK4, K4, H⟩ := Ev.callb (fun n_ => gs_7 rfl rfl (show gCal (.invokevirtual 212) 7 (.int c :: .int i :: .ref (fR M 104 2) :: .ref 104 :: []) M = some (.inr (70, [some (.ref 104), some (.ref (fR M 104 2)), some (.int i), some (.int c), none, none, none, none, none], [])) from by show @cond (Option ((List Value × Mem) ⊕ (Nat × Lo × List Value))) (true && gRecv M (.ref 104) 7 && gRoom [] && true) (some (.inr (70, [some (.ref 104), some (.ref (fR M 104 2)), some (.int i), some (.int c), none, none, none, none, none], []))) none = _; rw [recv_s hS.1 qa_104 qo_22]; rfl)) H
      have K4 : Ev none e1 70 0 [some (.ref 104), some (.ref (fR M 104 2)), some (.int i), some (.int c), none, none, none, none, none] [] M vK4 MK4 0 0 := K4
      have HF := H
      exact Or.inr (Or.inl ⟨h1, h3, b2, ⟨e1, vK4, MK4, rfl, K4, HF⟩⟩)
    · rw [if_neg h3] at H
      have H : Ev none e 64 3 [some (.ref 104), some (.int wh), some (.int c), some (.int wo), some (.int (i + 1))] [] M v M' 0 0 := Ev.back 2 (fun n => rfl) H
      have HF := H
      exact Or.inr (Or.inr (⟨h1, h3, b2, HF⟩))
theorem fnb_40 {e : Nat} {M M' : Mem} {v : Option Value} {wh c wo i y : Int32} (hS : SQ M) (H : Ev none e 64 40 [some (.ref 104), some (.int wh), some (.int c), some (.int wo), some (.int i)] [.int y] M v M' 0 0) : (y = 0 ∧ Ev none e 64 3 [some (.ref 104), some (.int wh), some (.int c), some (.int wo), some (.int (i + 1))] [] M v M' 0 0) ∨ (¬ (y = 0) ∧ (0 ≤ i.toInt ∧ i.toInt < 16) ∧ v = some (.int (rI M (fR M 104 2 + 3) i)) ∧ M' = M) := by
  have H : Ev none e 64 (if y = 0 then 54 else 43) [some (.ref 104), some (.int wh), some (.int c), some (.int wo), some (.int i)] [] M v M' 0 0 := Ev.back 1 (fun n => rfl) H
  by_cases h1 : y = 0
  · rw [if_pos h1] at H
    have H : Ev none e 64 3 [some (.ref 104), some (.int wh), some (.int c), some (.int wo), some (.int (i + 1))] [] M v M' 0 0 := Ev.back 2 (fun n => rfl) H
    have HF := H
    exact Or.inl ⟨h1, HF⟩
  · rw [if_neg h1] at H
    have H : Ev none e 64 44 [some (.ref 104), some (.int wh), some (.int c), some (.int wo), some (.int i)] [.ref 104] M v M' 0 0 := Ev.back 1 (fun n => rfl) H
    have H : Ev none e 64 47 [some (.ref 104), some (.int wh), some (.int c), some (.int wo), some (.int i)] [.ref (fR M 104 2)] M v M' 0 0 := Ev.back 1 (gs_3 rfl rfl (gf_r hS.1 qa_104 qr_22_2 rfl)) H
    have H : Ev none e 64 50 [some (.ref 104), some (.int wh), some (.int c), some (.int wo), some (.int i)] [.ref (fR M 104 2 + 3)] M v M' 0 0 := Ev.back 1 (gs_3 rfl rfl (gf_x hS.1 (hS.1.fr qa_104 qr_22_2).2 qo_28 (fx_t2 hS (hS.1.fr qa_104 qr_22_2).2) rfl)) H
    have H : Ev none e 64 52 [some (.ref 104), some (.int wh), some (.int c), some (.int wo), some (.int i)] [.int i, .ref (fR M 104 2 + 3)] M v M' 0 0 := Ev.back 1 (fun n => rfl) H
    obtain ⟨b2, H⟩ := Ev.ial rfl rfl hS.1 (fx_g2 (hS.1.fr qa_104 qr_22_2).2) qw_31 H
    have H : Ev none e 64 53 [some (.ref 104), some (.int wh), some (.int c), some (.int wo), some (.int i)] [.int (rI M (fR M 104 2 + 3) i)] M v M' 0 0 := H
    obtain ⟨z1, z2⟩ := Ev.retz rfl rfl H
    exact Or.inr (⟨h1, b2, z1, z2⟩)
theorem wha_0 {e : Nat} {M M' : Mem} {v : Option Value} {c d si : Int32} (hS : SQ M) (H : Ev none e 69 0 [some (.ref 104), some (.int c), some (.int d), some (.int si), none, none, none] [] M v M' 0 0) : Ev none e 69 9 [some (.ref 104), some (.int c), some (.int d), some (.int si), some (.int 0), some (.int c), some (.int 0)] [] M v M' 0 0 := by
  have H : Ev none e 69 9 [some (.ref 104), some (.int c), some (.int d), some (.int si), some (.int 0), some (.int c), some (.int 0)] [] M v M' 0 0 := Ev.back 6 (fun n => rfl) H
  have HF := H
  exact HF
theorem wha_9 {e : Nat} {M M' : Mem} {v : Option Value} {c d si nn av k : Int32} (hS : SQ M) (H : Ev none e 69 9 [some (.ref 104), some (.int c), some (.int d), some (.int si), some (.int nn), some (.int av), some (.int k)] [] M v M' 0 0) : (si ≤ k ∧ v = some (.int nn) ∧ M' = M) ∨ (¬ (si ≤ k) ∧ av = (-1) ∧ v = some (.int nn) ∧ M' = M) ∨ (¬ (si ≤ k) ∧ ¬ (av = (-1)) ∧ (G_7 M (fR M 104 7) av) = 0 ∧ v = some (.int nn) ∧ M' = M) ∨ (¬ (si ≤ k) ∧ ¬ (av = (-1)) ∧ ¬ ((G_7 M (fR M 104 7) av) = 0) ∧ (G_56 M av) = 0 ∧ (0 ≤ ((8 * av) + d).toInt ∧ ((8 * av) + d).toInt < 2048) ∧ Ev none e 69 9 [some (.ref 104), some (.int c), some (.int d), some (.int si), some (.int (nn + 0)), some (.int (rI M 108 ((8 * av) + d))), some (.int (k + 1))] [] M v M' 0 0) ∨ (¬ (si ≤ k) ∧ ¬ (av = (-1)) ∧ ¬ ((G_7 M (fR M 104 7) av) = 0) ∧ ¬ ((G_56 M av) = 0) ∧ (0 ≤ ((8 * av) + d).toInt ∧ ((8 * av) + d).toInt < 2048) ∧ Ev none e 69 9 [some (.ref 104), some (.int c), some (.int d), some (.int si), some (.int (nn + 1)), some (.int (rI M 108 ((8 * av) + d))), some (.int (k + 1))] [] M v M' 0 0) := by
  have H : Ev none e 69 (if si ≤ k then 75 else 15) [some (.ref 104), some (.int c), some (.int d), some (.int si), some (.int nn), some (.int av), some (.int k)] [] M v M' 0 0 := Ev.back 3 (fun n => rfl) H
  by_cases h1 : si ≤ k
  · rw [if_pos h1] at H
    have H : Ev none e 69 77 [some (.ref 104), some (.int c), some (.int d), some (.int si), some (.int nn), some (.int av), some (.int k)] [.int nn] M v M' 0 0 := Ev.back 1 (fun n => rfl) H
    obtain ⟨z1, z2⟩ := Ev.retz rfl rfl H
    exact Or.inl ⟨h1, z1, z2⟩
  · rw [if_neg h1] at H
    have H : Ev none e 69 (if av = (-1) then 75 else 21) [some (.ref 104), some (.int c), some (.int d), some (.int si), some (.int nn), some (.int av), some (.int k)] [] M v M' 0 0 := Ev.back 3 (fun n => rfl) H
    by_cases h2 : av = (-1)
    · rw [if_pos h2] at H
      have H : Ev none e 69 77 [some (.ref 104), some (.int c), some (.int d), some (.int si), some (.int nn), some (.int av), some (.int k)] [.int nn] M v M' 0 0 := Ev.back 1 (fun n => rfl) H
      obtain ⟨z1, z2⟩ := Ev.retz rfl rfl H
      exact Or.inr (Or.inl ⟨h1, h2, z1, z2⟩)
    · rw [if_neg h2] at H
      have H : Ev none e 69 22 [some (.ref 104), some (.int c), some (.int d), some (.int si), some (.int nn), some (.int av), some (.int k)] [.ref 104] M v M' 0 0 := Ev.back 1 (fun n => rfl) H
      have H : Ev none e 69 25 [some (.ref 104), some (.int c), some (.int d), some (.int si), some (.int nn), some (.int av), some (.int k)] [.ref (fR M 104 7)] M v M' 0 0 := Ev.back 1 (gs_3 rfl rfl (gf_r hS.1 qa_104 qr_22_7 rfl)) H
      have H : Ev none e 69 27 [some (.ref 104), some (.int c), some (.int d), some (.int si), some (.int nn), some (.int av), some (.int k)] [.int av, .ref (fR M 104 7)] M v M' 0 0 := Ev.back 1 (fun n => rfl) H
      obtain ⟨e1, rfl⟩ := Ev.dpos rfl rfl H
      obtain ⟨vK3, MK3, K3, H⟩ := Ev.callb (fun n_ => gs_7 rfl rfl (show gCal (.invokevirtual 225) 7 (.int av :: .ref (fR M 104 7) :: []) M = some (.inr (7, [some (.ref (fR M 104 7)), some (.int av)], [])) from by show @cond (Option ((List Value × Mem) ⊕ (Nat × Lo × List Value))) (true && gRecv M (.ref (fR M 104 7)) 1 && gRoom [] && true) (some (.inr (7, [some (.ref (fR M 104 7)), some (.int av)], []))) none = _; rw [recv_s hS.1 (hS.1.fr qa_104 qr_22_7).2 qo_8]; rfl)) H
      obtain ⟨pK3, qK3⟩ := g_7 hS (hS.1.fr qa_104 qr_22_7).2 K3
      rw [pK3, qK3] at H
      have H : Ev none (e1 + 1) 69 30 [some (.ref 104), some (.int c), some (.int d), some (.int si), some (.int nn), some (.int av), some (.int k)] [.int (G_7 M (fR M 104 7) av)] M v M' 0 0 := H
      have H : Ev none (e1 + 1) 69 (if (G_7 M (fR M 104 7) av) = 0 then 75 else 33) [some (.ref 104), some (.int c), some (.int d), some (.int si), some (.int nn), some (.int av), some (.int k)] [] M v M' 0 0 := Ev.back 1 (fun n => rfl) H
      by_cases h4 : (G_7 M (fR M 104 7) av) = 0
      · rw [if_pos h4] at H
        have H : Ev none (e1 + 1) 69 77 [some (.ref 104), some (.int c), some (.int d), some (.int si), some (.int nn), some (.int av), some (.int k)] [.int nn] M v M' 0 0 := Ev.back 1 (fun n => rfl) H
        obtain ⟨z1, z2⟩ := Ev.retz rfl rfl H
        exact Or.inr (Or.inr (Or.inl ⟨h1, h2, h4, z1, z2⟩))
      · rw [if_neg h4] at H
        have H : Ev none (e1 + 1) 69 38 [some (.ref 104), some (.int c), some (.int d), some (.int si), some (.int nn), some (.int av), some (.int k)] [.int av, .ref 104, .int nn] M v M' 0 0 := Ev.back 3 (fun n => rfl) H
        obtain ⟨vK5, MK5, K5, H⟩ := Ev.callb (fun n_ => gs_7 rfl rfl (show gCal (.invokevirtual 94) 7 (.int av :: .ref 104 :: [.int nn]) M = some (.inr (56, [some (.ref 104), some (.int av)], [.int nn])) from by show @cond (Option ((List Value × Mem) ⊕ (Nat × Lo × List Value))) (true && gRecv M (.ref 104) 7 && gRoom [.int nn] && true) (some (.inr (56, [some (.ref 104), some (.int av)], [.int nn]))) none = _; rw [recv_s hS.1 qa_104 qo_22]; rfl)) H
        obtain ⟨pK5, qK5⟩ := g_56 hS K5
        rw [pK5, qK5] at H
        have H : Ev none (e1 + 1) 69 41 [some (.ref 104), some (.int c), some (.int d), some (.int si), some (.int nn), some (.int av), some (.int k)] [.int (G_56 M av), .int nn] M v M' 0 0 := H
        have H : Ev none (e1 + 1) 69 (if (G_56 M av) = 0 then 48 else 44) [some (.ref 104), some (.int c), some (.int d), some (.int si), some (.int nn), some (.int av), some (.int k)] [.int nn] M v M' 0 0 := Ev.back 1 (fun n => rfl) H
        by_cases h6 : (G_56 M av) = 0
        · rw [if_pos h6] at H
          have H : Ev none (e1 + 1) 69 53 [some (.ref 104), some (.int c), some (.int d), some (.int si), some (.int (nn + 0)), some (.int av), some (.int k)] [.ref 104] M v M' 0 0 := Ev.back 4 (fun n => rfl) H
          have H : Ev none (e1 + 1) 69 56 [some (.ref 104), some (.int c), some (.int d), some (.int si), some (.int (nn + 0)), some (.int av), some (.int k)] [.ref 105] M v M' 0 0 := Ev.back 1 (gs_3 rfl rfl (gf_u hS.1 qa_104 qr_22_0 qu_23 rfl)) H
          have H : Ev none (e1 + 1) 69 59 [some (.ref 104), some (.int c), some (.int d), some (.int si), some (.int (nn + 0)), some (.int av), some (.int k)] [.ref 108] M v M' 0 0 := Ev.back 1 (gs_3 rfl rfl (gf_u hS.1 qa_105 qr_23_2 qu_26 rfl)) H
          have H : Ev none (e1 + 1) 69 66 [some (.ref 104), some (.int c), some (.int d), some (.int si), some (.int (nn + 0)), some (.int av), some (.int k)] [.int ((8 * av) + d), .ref 108] M v M' 0 0 := Ev.back 5 (fun n => rfl) H
          obtain ⟨b7, H⟩ := Ev.ial rfl rfl hS.1 qa_108 qw_26 H
          have H : Ev none (e1 + 1) 69 67 [some (.ref 104), some (.int c), some (.int d), some (.int si), some (.int (nn + 0)), some (.int av), some (.int k)] [.int (rI M 108 ((8 * av) + d))] M v M' 0 0 := H
          have H : Ev none (e1 + 1) 69 9 [some (.ref 104), some (.int c), some (.int d), some (.int si), some (.int (nn + 0)), some (.int (rI M 108 ((8 * av) + d))), some (.int (k + 1))] [] M v M' 0 0 := Ev.back 3 (fun n => rfl) H
          have HF := H
          exact Or.inr (Or.inr (Or.inr (Or.inl ⟨h1, h2, h4, h6, b7, HF⟩)))
        · rw [if_neg h6] at H
          have H : Ev none (e1 + 1) 69 53 [some (.ref 104), some (.int c), some (.int d), some (.int si), some (.int (nn + 1)), some (.int av), some (.int k)] [.ref 104] M v M' 0 0 := Ev.back 5 (fun n => rfl) H
          have H : Ev none (e1 + 1) 69 56 [some (.ref 104), some (.int c), some (.int d), some (.int si), some (.int (nn + 1)), some (.int av), some (.int k)] [.ref 105] M v M' 0 0 := Ev.back 1 (gs_3 rfl rfl (gf_u hS.1 qa_104 qr_22_0 qu_23 rfl)) H
          have H : Ev none (e1 + 1) 69 59 [some (.ref 104), some (.int c), some (.int d), some (.int si), some (.int (nn + 1)), some (.int av), some (.int k)] [.ref 108] M v M' 0 0 := Ev.back 1 (gs_3 rfl rfl (gf_u hS.1 qa_105 qr_23_2 qu_26 rfl)) H
          have H : Ev none (e1 + 1) 69 66 [some (.ref 104), some (.int c), some (.int d), some (.int si), some (.int (nn + 1)), some (.int av), some (.int k)] [.int ((8 * av) + d), .ref 108] M v M' 0 0 := Ev.back 5 (fun n => rfl) H
          obtain ⟨b8, H⟩ := Ev.ial rfl rfl hS.1 qa_108 qw_26 H
          have H : Ev none (e1 + 1) 69 67 [some (.ref 104), some (.int c), some (.int d), some (.int si), some (.int (nn + 1)), some (.int av), some (.int k)] [.int (rI M 108 ((8 * av) + d))] M v M' 0 0 := H
          have H : Ev none (e1 + 1) 69 9 [some (.ref 104), some (.int c), some (.int d), some (.int si), some (.int (nn + 1)), some (.int (rI M 108 ((8 * av) + d))), some (.int (k + 1))] [] M v M' 0 0 := Ev.back 3 (fun n => rfl) H
          have HF := H
          exact Or.inr (Or.inr (Or.inr (Or.inr (⟨h1, h2, h4, h6, b8, HF⟩))))
theorem tre_0 {e : Nat} {M M' : Mem} {v : Option Value} {c : Int32} (hS : SQ M) (H : Ev none e 62 0 [some (.ref 104), some (.int c), none] [] M v M' 0 0) : ((G_8 M (fR M 104 7) c) = 0 ∧ (0 ≤ c.toInt ∧ c.toInt < 256) ∧ (0 ≤ c.toInt ∧ c.toInt < 256) ∧ (0 ≤ c.toInt ∧ c.toInt < 256) ∧ (0 ≤ c.toInt ∧ c.toInt < 256) ∧ Ev none e 62 73 [some (.ref 104), some (.int c), some (.int 0)] [] (wI (wI M (fR M 104 7 + 6) c.toNatClampNeg ((rI M (fR M 104 7 + 6) c) + 1)) (fR M 104 7 + 7) c.toNatClampNeg ((rI M (fR M 104 7 + 7) c) + 1)) v M' 0 0) ∨ (¬ ((G_8 M (fR M 104 7) c) = 0) ∧ (∃ e1 v1 M1, e = e1 + 1 ∧ Ev none e1 64 0 [some (.ref 104), some (.int 0), some (.int c), some (.int 5), none] [] M v1 M1 0 0 ∧ Ev none e 62 18 [some (.ref 104), some (.int c), none] (v1.toList ++ []) M1 v M' 0 0)) := by
  have H : Ev none e 62 1 [some (.ref 104), some (.int c), none] [.ref 104] M v M' 0 0 := Ev.back 1 (fun n => rfl) H
  have H : Ev none e 62 4 [some (.ref 104), some (.int c), none] [.ref (fR M 104 7)] M v M' 0 0 := Ev.back 1 (gs_3 rfl rfl (gf_r hS.1 qa_104 qr_22_7 rfl)) H
  have H : Ev none e 62 5 [some (.ref 104), some (.int c), none] [.int c, .ref (fR M 104 7)] M v M' 0 0 := Ev.back 1 (fun n => rfl) H
  obtain ⟨e1, rfl⟩ := Ev.dpos rfl rfl H
  obtain ⟨vK1, MK1, K1, H⟩ := Ev.callb (fun n_ => gs_7 rfl rfl (show gCal (.invokevirtual 178) 7 (.int c :: .ref (fR M 104 7) :: []) M = some (.inr (8, [some (.ref (fR M 104 7)), some (.int c)], [])) from by show @cond (Option ((List Value × Mem) ⊕ (Nat × Lo × List Value))) (true && gRecv M (.ref (fR M 104 7)) 1 && gRoom [] && true) (some (.inr (8, [some (.ref (fR M 104 7)), some (.int c)], []))) none = _; rw [recv_s hS.1 (hS.1.fr qa_104 qr_22_7).2 qo_8]; rfl)) H
  obtain ⟨pK1, qK1⟩ := g_8 hS (hS.1.fr qa_104 qr_22_7).2 K1
  rw [pK1, qK1] at H
  have H : Ev none (e1 + 1) 62 8 [some (.ref 104), some (.int c), none] [.int (G_8 M (fR M 104 7) c)] M v M' 0 0 := H
  have H : Ev none (e1 + 1) 62 (if (G_8 M (fR M 104 7) c) = 0 then 45 else 11) [some (.ref 104), some (.int c), none] [] M v M' 0 0 := Ev.back 1 (fun n => rfl) H
  by_cases h2 : (G_8 M (fR M 104 7) c) = 0
  · rw [if_pos h2] at H
    have H : Ev none (e1 + 1) 62 46 [some (.ref 104), some (.int c), none] [.ref 104] M v M' 0 0 := Ev.back 1 (fun n => rfl) H
    have H : Ev none (e1 + 1) 62 49 [some (.ref 104), some (.int c), none] [.ref (fR M 104 7)] M v M' 0 0 := Ev.back 1 (gs_3 rfl rfl (gf_r hS.1 qa_104 qr_22_7 rfl)) H
    have H : Ev none (e1 + 1) 62 52 [some (.ref 104), some (.int c), none] [.ref (fR M 104 7 + 6)] M v M' 0 0 := Ev.back 1 (gs_3 rfl rfl (gf_x hS.1 (hS.1.fr qa_104 qr_22_7).2 qo_8 (fx_l7 hS (hS.1.fr qa_104 qr_22_7).2) rfl)) H
    have H : Ev none (e1 + 1) 62 54 [some (.ref 104), some (.int c), none] [.int c, .ref (fR M 104 7 + 6), .int c, .ref (fR M 104 7 + 6)] M v M' 0 0 := Ev.back 2 (fun n => rfl) H
    obtain ⟨b3, H⟩ := Ev.ial rfl rfl hS.1 (fx_h7 (hS.1.fr qa_104 qr_22_7).2) qw_14 H
    have H : Ev none (e1 + 1) 62 55 [some (.ref 104), some (.int c), none] [.int (rI M (fR M 104 7 + 6) c), .int c, .ref (fR M 104 7 + 6)] M v M' 0 0 := H
    have H : Ev none (e1 + 1) 62 57 [some (.ref 104), some (.int c), none] [.int ((rI M (fR M 104 7 + 6) c) + 1), .int c, .ref (fR M 104 7 + 6)] M v M' 0 0 := Ev.back 2 (fun n => rfl) H
    obtain ⟨b4, H⟩ := Ev.ias rfl rfl hS.1 (fx_h7 (hS.1.fr qa_104 qr_22_7).2) qw_14 H
    obtain ⟨N5, eN5⟩ : ∃ N, N = (wI M (fR M 104 7 + 6) c.toNatClampNeg ((rI M (fR M 104 7 + 6) c) + 1)) := ⟨_, rfl⟩
    have hN5 : SQ N5 := by rw [eN5]; exact hS.ki
    have H : Ev none (e1 + 1) 62 58 [some (.ref 104), some (.int c), none] [] N5 v M' 0 0 := by rw [eN5]; exact H
    have H : Ev none (e1 + 1) 62 59 [some (.ref 104), some (.int c), none] [.ref 104] N5 v M' 0 0 := Ev.back 1 (fun n => rfl) H
    have H : Ev none (e1 + 1) 62 62 [some (.ref 104), some (.int c), none] [.ref (fR N5 104 7)] N5 v M' 0 0 := Ev.back 1 (gs_3 rfl rfl (gf_r hN5.1 qa_104 qr_22_7 rfl)) H
    rw [show fR N5 104 7 = fR M 104 7 from by rw [eN5]; exact fR_wI] at H
    have H : Ev none (e1 + 1) 62 65 [some (.ref 104), some (.int c), none] [.ref (fR M 104 7 + 7)] N5 v M' 0 0 := Ev.back 1 (gs_3 rfl rfl (gf_x hN5.1 (hS.1.fr qa_104 qr_22_7).2 qo_8 (fx_l8 hN5 (hS.1.fr qa_104 qr_22_7).2) rfl)) H
    have H : Ev none (e1 + 1) 62 67 [some (.ref 104), some (.int c), none] [.int c, .ref (fR M 104 7 + 7), .int c, .ref (fR M 104 7 + 7)] N5 v M' 0 0 := Ev.back 2 (fun n => rfl) H
    obtain ⟨b6, H⟩ := Ev.ial rfl rfl hN5.1 (fx_h8 (hS.1.fr qa_104 qr_22_7).2) qw_15 H
    have H : Ev none (e1 + 1) 62 68 [some (.ref 104), some (.int c), none] [.int (rI N5 (fR M 104 7 + 7) c), .int c, .ref (fR M 104 7 + 7)] N5 v M' 0 0 := H
    rw [show rI N5 (fR M 104 7 + 7) c = rI M (fR M 104 7 + 7) c from by rw [eN5]; exact rN_wI_ne (fun q => absurd q.1 (by omega))] at H
    have H : Ev none (e1 + 1) 62 70 [some (.ref 104), some (.int c), none] [.int ((rI M (fR M 104 7 + 7) c) + 1), .int c, .ref (fR M 104 7 + 7)] N5 v M' 0 0 := Ev.back 2 (fun n => rfl) H
    obtain ⟨b7, H⟩ := Ev.ias rfl rfl hN5.1 (fx_h8 (hS.1.fr qa_104 qr_22_7).2) qw_15 H
    obtain ⟨N8, eN8⟩ : ∃ N, N = (wI N5 (fR M 104 7 + 7) c.toNatClampNeg ((rI M (fR M 104 7 + 7) c) + 1)) := ⟨_, rfl⟩
    have hN8 : SQ N8 := by rw [eN8]; exact hN5.ki
    have H : Ev none (e1 + 1) 62 71 [some (.ref 104), some (.int c), none] [] N8 v M' 0 0 := by rw [eN8]; exact H
    have H : Ev none (e1 + 1) 62 73 [some (.ref 104), some (.int c), some (.int 0)] [] N8 v M' 0 0 := Ev.back 2 (fun n => rfl) H
    have HF := H
    subst eN5 eN8
    exact Or.inl ⟨h2, b3, b4, b6, b7, HF⟩
  · rw [if_neg h2] at H
    have H : Ev none (e1 + 1) 62 15 [some (.ref 104), some (.int c), none] [.int 5, .int c, .int 0, .ref 104] M v M' 0 0 := Ev.back 4 (fun n => rfl) H
    obtain ⟨vK9, MK9, K9, H⟩ := Ev.callb (fun n_ => gs_7 rfl rfl (show gCal (.invokevirtual 181) 7 (.int 5 :: .int c :: .int 0 :: .ref 104 :: []) M = some (.inr (64, [some (.ref 104), some (.int 0), some (.int c), some (.int 5), none], [])) from by show @cond (Option ((List Value × Mem) ⊕ (Nat × Lo × List Value))) (true && gRecv M (.ref 104) 7 && gRoom [] && true) (some (.inr (64, [some (.ref 104), some (.int 0), some (.int c), some (.int 5), none], []))) none = _; rw [recv_s hS.1 qa_104 qo_22]; rfl)) H
    have K9 : Ev none e1 64 0 [some (.ref 104), some (.int 0), some (.int c), some (.int 5), none] [] M vK9 MK9 0 0 := K9
    have HF := H
    exact Or.inr (⟨h2, ⟨e1, vK9, MK9, rfl, K9, HF⟩⟩)
theorem tre_18 {e : Nat} {M M' : Mem} {v : Option Value} {c y : Int32} (hS : SQ M) (H : Ev none e 62 18 [some (.ref 104), some (.int c), none] [.int y] M v M' 0 0) : (0 ≤ c.toInt ∧ c.toInt < 256) ∧ (0 ≤ c.toInt ∧ c.toInt < 256) ∧ Ev none e 62 45 [some (.ref 104), some (.int c), some (.int y)] [] (wI M (fR M 104 7 + 4) c.toNatClampNeg (if ((rI M (fR M 104 7 + 4) c) + y) < 999 then ((rI M (fR M 104 7 + 4) c) + y) else 999)) v M' 0 0 := by
  have H : Ev none e 62 20 [some (.ref 104), some (.int c), some (.int y)] [.ref 104] M v M' 0 0 := Ev.back 2 (fun n => rfl) H
  have H : Ev none e 62 23 [some (.ref 104), some (.int c), some (.int y)] [.ref (fR M 104 7)] M v M' 0 0 := Ev.back 1 (gs_3 rfl rfl (gf_r hS.1 qa_104 qr_22_7 rfl)) H
  have H : Ev none e 62 26 [some (.ref 104), some (.int c), some (.int y)] [.ref (fR M 104 7 + 4)] M v M' 0 0 := Ev.back 1 (gs_3 rfl rfl (gf_x hS.1 (hS.1.fr qa_104 qr_22_7).2 qo_8 (fx_l5 hS (hS.1.fr qa_104 qr_22_7).2) rfl)) H
  have H : Ev none e 62 31 [some (.ref 104), some (.int c), some (.int y)] [.ref 104, .int 999, .int c, .ref (fR M 104 7 + 4)] M v M' 0 0 := Ev.back 3 (fun n => rfl) H
  have H : Ev none e 62 34 [some (.ref 104), some (.int c), some (.int y)] [.ref (fR M 104 7), .int 999, .int c, .ref (fR M 104 7 + 4)] M v M' 0 0 := Ev.back 1 (gs_3 rfl rfl (gf_r hS.1 qa_104 qr_22_7 rfl)) H
  have H : Ev none e 62 37 [some (.ref 104), some (.int c), some (.int y)] [.ref (fR M 104 7 + 4), .int 999, .int c, .ref (fR M 104 7 + 4)] M v M' 0 0 := Ev.back 1 (gs_3 rfl rfl (gf_x hS.1 (hS.1.fr qa_104 qr_22_7).2 qo_8 (fx_l5 hS (hS.1.fr qa_104 qr_22_7).2) rfl)) H
  have H : Ev none e 62 38 [some (.ref 104), some (.int c), some (.int y)] [.int c, .ref (fR M 104 7 + 4), .int 999, .int c, .ref (fR M 104 7 + 4)] M v M' 0 0 := Ev.back 1 (fun n => rfl) H
  obtain ⟨b1, H⟩ := Ev.ial rfl rfl hS.1 (fx_h5 (hS.1.fr qa_104 qr_22_7).2) qw_12 H
  have H : Ev none e 62 39 [some (.ref 104), some (.int c), some (.int y)] [.int (rI M (fR M 104 7 + 4) c), .int 999, .int c, .ref (fR M 104 7 + 4)] M v M' 0 0 := H
  have H : Ev none e 62 41 [some (.ref 104), some (.int c), some (.int y)] [.int ((rI M (fR M 104 7 + 4) c) + y), .int 999, .int c, .ref (fR M 104 7 + 4)] M v M' 0 0 := Ev.back 2 (fun n => rfl) H
  obtain ⟨e1, rfl⟩ := Ev.dpos rfl rfl H
  have H : Ev none (e1 + 1) 62 44 [some (.ref 104), some (.int c), some (.int y)] [.int (if ((rI M (fR M 104 7 + 4) c) + y) < 999 then ((rI M (fR M 104 7 + 4) c) + y) else 999), .int c, .ref (fR M 104 7 + 4)] M v M' 0 0 := Ev.back 1 (fun n => rfl) H
  obtain ⟨b2, H⟩ := Ev.ias rfl rfl hS.1 (fx_h5 (hS.1.fr qa_104 qr_22_7).2) qw_12 H
  obtain ⟨N3, eN3⟩ : ∃ N, N = (wI M (fR M 104 7 + 4) c.toNatClampNeg (if ((rI M (fR M 104 7 + 4) c) + y) < 999 then ((rI M (fR M 104 7 + 4) c) + y) else 999)) := ⟨_, rfl⟩
  have hN3 : SQ N3 := by rw [eN3]; exact hS.ki
  have H : Ev none (e1 + 1) 62 45 [some (.ref 104), some (.int c), some (.int y)] [] N3 v M' 0 0 := by rw [eN3]; exact H
  have HF := H
  subst eN3
  exact ⟨b1, b2, HF⟩
theorem tre_45 {e : Nat} {M M' : Mem} {v : Option Value} {c : Int32} {c2 : Option Value} (hS : SQ M) (H : Ev none e 62 45 [some (.ref 104), some (.int c), c2] [] M v M' 0 0) : (0 ≤ c.toInt ∧ c.toInt < 256) ∧ (0 ≤ c.toInt ∧ c.toInt < 256) ∧ (0 ≤ c.toInt ∧ c.toInt < 256) ∧ (0 ≤ c.toInt ∧ c.toInt < 256) ∧ Ev none e 62 73 [some (.ref 104), some (.int c), some (.int 0)] [] (wI (wI M (fR M 104 7 + 6) c.toNatClampNeg ((rI M (fR M 104 7 + 6) c) + 1)) (fR M 104 7 + 7) c.toNatClampNeg ((rI M (fR M 104 7 + 7) c) + 1)) v M' 0 0 := by
  have H : Ev none e 62 46 [some (.ref 104), some (.int c), c2] [.ref 104] M v M' 0 0 := Ev.back 1 (fun n => rfl) H
  have H : Ev none e 62 49 [some (.ref 104), some (.int c), c2] [.ref (fR M 104 7)] M v M' 0 0 := Ev.back 1 (gs_3 rfl rfl (gf_r hS.1 qa_104 qr_22_7 rfl)) H
  have H : Ev none e 62 52 [some (.ref 104), some (.int c), c2] [.ref (fR M 104 7 + 6)] M v M' 0 0 := Ev.back 1 (gs_3 rfl rfl (gf_x hS.1 (hS.1.fr qa_104 qr_22_7).2 qo_8 (fx_l7 hS (hS.1.fr qa_104 qr_22_7).2) rfl)) H
  have H : Ev none e 62 54 [some (.ref 104), some (.int c), c2] [.int c, .ref (fR M 104 7 + 6), .int c, .ref (fR M 104 7 + 6)] M v M' 0 0 := Ev.back 2 (fun n => rfl) H
  obtain ⟨b1, H⟩ := Ev.ial rfl rfl hS.1 (fx_h7 (hS.1.fr qa_104 qr_22_7).2) qw_14 H
  have H : Ev none e 62 55 [some (.ref 104), some (.int c), c2] [.int (rI M (fR M 104 7 + 6) c), .int c, .ref (fR M 104 7 + 6)] M v M' 0 0 := H
  have H : Ev none e 62 57 [some (.ref 104), some (.int c), c2] [.int ((rI M (fR M 104 7 + 6) c) + 1), .int c, .ref (fR M 104 7 + 6)] M v M' 0 0 := Ev.back 2 (fun n => rfl) H
  obtain ⟨b2, H⟩ := Ev.ias rfl rfl hS.1 (fx_h7 (hS.1.fr qa_104 qr_22_7).2) qw_14 H
  obtain ⟨N3, eN3⟩ : ∃ N, N = (wI M (fR M 104 7 + 6) c.toNatClampNeg ((rI M (fR M 104 7 + 6) c) + 1)) := ⟨_, rfl⟩
  have hN3 : SQ N3 := by rw [eN3]; exact hS.ki
  have H : Ev none e 62 58 [some (.ref 104), some (.int c), c2] [] N3 v M' 0 0 := by rw [eN3]; exact H
  have H : Ev none e 62 59 [some (.ref 104), some (.int c), c2] [.ref 104] N3 v M' 0 0 := Ev.back 1 (fun n => rfl) H
  have H : Ev none e 62 62 [some (.ref 104), some (.int c), c2] [.ref (fR N3 104 7)] N3 v M' 0 0 := Ev.back 1 (gs_3 rfl rfl (gf_r hN3.1 qa_104 qr_22_7 rfl)) H
  rw [show fR N3 104 7 = fR M 104 7 from by rw [eN3]; exact fR_wI] at H
  have H : Ev none e 62 65 [some (.ref 104), some (.int c), c2] [.ref (fR M 104 7 + 7)] N3 v M' 0 0 := Ev.back 1 (gs_3 rfl rfl (gf_x hN3.1 (hS.1.fr qa_104 qr_22_7).2 qo_8 (fx_l8 hN3 (hS.1.fr qa_104 qr_22_7).2) rfl)) H
  have H : Ev none e 62 67 [some (.ref 104), some (.int c), c2] [.int c, .ref (fR M 104 7 + 7), .int c, .ref (fR M 104 7 + 7)] N3 v M' 0 0 := Ev.back 2 (fun n => rfl) H
  obtain ⟨b4, H⟩ := Ev.ial rfl rfl hN3.1 (fx_h8 (hS.1.fr qa_104 qr_22_7).2) qw_15 H
  have H : Ev none e 62 68 [some (.ref 104), some (.int c), c2] [.int (rI N3 (fR M 104 7 + 7) c), .int c, .ref (fR M 104 7 + 7)] N3 v M' 0 0 := H
  rw [show rI N3 (fR M 104 7 + 7) c = rI M (fR M 104 7 + 7) c from by rw [eN3]; exact rN_wI_ne (fun q => absurd q.1 (by omega))] at H
  have H : Ev none e 62 70 [some (.ref 104), some (.int c), c2] [.int ((rI M (fR M 104 7 + 7) c) + 1), .int c, .ref (fR M 104 7 + 7)] N3 v M' 0 0 := Ev.back 2 (fun n => rfl) H
  obtain ⟨b5, H⟩ := Ev.ias rfl rfl hN3.1 (fx_h8 (hS.1.fr qa_104 qr_22_7).2) qw_15 H
  obtain ⟨N6, eN6⟩ : ∃ N, N = (wI N3 (fR M 104 7 + 7) c.toNatClampNeg ((rI M (fR M 104 7 + 7) c) + 1)) := ⟨_, rfl⟩
  have hN6 : SQ N6 := by rw [eN6]; exact hN3.ki
  have H : Ev none e 62 71 [some (.ref 104), some (.int c), c2] [] N6 v M' 0 0 := by rw [eN6]; exact H
  have H : Ev none e 62 73 [some (.ref 104), some (.int c), some (.int 0)] [] N6 v M' 0 0 := Ev.back 2 (fun n => rfl) H
  have HF := H
  subst eN3 eN6
  exact ⟨b1, b2, b4, b5, HF⟩
theorem tre_73 {e : Nat} {M M' : Mem} {v : Option Value} {c k : Int32} (hS : SQ M) (H : Ev none e 62 73 [some (.ref 104), some (.int c), some (.int k)] [] M v M' 0 0) : (6 ≤ k ∧ c = (zI M 104 9) ∧ v = none ∧ M' = (wF M 104 10 1)) ∨ (6 ≤ k ∧ ¬ (c = (zI M 104 9)) ∧ v = none ∧ M' = M) ∨ (¬ (6 ≤ k) ∧ (0 ≤ ((256 * k) + c).toInt ∧ ((256 * k) + c).toInt < 1536) ∧ Ev none e 62 73 [some (.ref 104), some (.int c), some (.int (k + 1))] [] (wI M 128 (((256 * k) + c).toNatClampNeg) (-1)) v M' 0 0) := by
  have H : Ev none e 62 (if 6 ≤ k then 98 else 79) [some (.ref 104), some (.int c), some (.int k)] [] M v M' 0 0 := Ev.back 3 (fun n => rfl) H
  by_cases h1 : 6 ≤ k
  · rw [if_pos h1] at H
    have H : Ev none e 62 100 [some (.ref 104), some (.int c), some (.int k)] [.ref 104, .int c] M v M' 0 0 := Ev.back 2 (fun n => rfl) H
    have H : Ev none e 62 103 [some (.ref 104), some (.int c), some (.int k)] [.int (zI M 104 9), .int c] M v M' 0 0 := Ev.back 1 (gs_3 rfl rfl (gf_i hS.1 qa_104 qi_22_9 rfl)) H
    have H : Ev none e 62 (if c = (zI M 104 9) then 106 else 111) [some (.ref 104), some (.int c), some (.int k)] [] M v M' 0 0 := Ev.back 1 (fun n => rfl) H
    by_cases h2 : c = (zI M 104 9)
    · rw [if_pos h2] at H
      have H : Ev none e 62 108 [some (.ref 104), some (.int c), some (.int k)] [.int 1, .ref 104] M v M' 0 0 := Ev.back 2 (fun n => rfl) H
      obtain ⟨N4, eN4⟩ : ∃ N, N = (wF M 104 10 1) := ⟨_, rfl⟩
      have hN4 : SQ N4 := by rw [eN4]; exact hS.kf
      have H : Ev none e 62 111 [some (.ref 104), some (.int c), some (.int k)] [] N4 v M' 0 0 := by rw [eN4]; exact Ev.pfi rfl rfl rfl hS.1 qa_104 qi_22_10 H
      obtain ⟨z1, z2⟩ := Ev.retb (fun n => rfl) H
      subst eN4
      exact Or.inl ⟨h1, h2, z1, z2⟩
    · rw [if_neg h2] at H
      obtain ⟨z1, z2⟩ := Ev.retb (fun n => rfl) H
      exact Or.inr (Or.inl ⟨h1, h2, z1, z2⟩)
  · rw [if_neg h1] at H
    have H : Ev none e 62 80 [some (.ref 104), some (.int c), some (.int k)] [.ref 104] M v M' 0 0 := Ev.back 1 (fun n => rfl) H
    have H : Ev none e 62 83 [some (.ref 104), some (.int c), some (.int k)] [.ref 128] M v M' 0 0 := Ev.back 1 (gs_3 rfl rfl (gf_u hS.1 qa_104 qr_22_4 qu_37 rfl)) H
    have H : Ev none e 62 91 [some (.ref 104), some (.int c), some (.int k)] [.int (-1), .int ((256 * k) + c), .ref 128] M v M' 0 0 := Ev.back 6 (fun n => rfl) H
    obtain ⟨b5, H⟩ := Ev.ias rfl rfl hS.1 qa_128 qw_37 H
    obtain ⟨N6, eN6⟩ : ∃ N, N = (wI M 128 (((256 * k) + c).toNatClampNeg) (-1)) := ⟨_, rfl⟩
    have hN6 : SQ N6 := by rw [eN6]; exact hS.ki
    have H : Ev none e 62 92 [some (.ref 104), some (.int c), some (.int k)] [] N6 v M' 0 0 := by rw [eN6]; exact H
    have H : Ev none e 62 73 [some (.ref 104), some (.int c), some (.int (k + 1))] [] N6 v M' 0 0 := Ev.back 2 (fun n => rfl) H
    have HF := H
    subst eN6
    exact Or.inr (Or.inr (⟨h1, b5, HF⟩))
theorem loo_0 {e : Nat} {M M' : Mem} {v : Option Value} {av c : Int32} {t : Nat} (hS : SQ M) (a_t : gNth sT t = some 28) (H : Ev none e 67 0 [some (.ref 104), some (.ref t), some (.int av), some (.int c), none, none] [] M v M' 0 0) : (0 ≤ av.toInt ∧ av.toInt < 1536) ∧ Ev none e 67 10 [some (.ref 104), some (.ref t), some (.int av), some (.int c), some (.int 0), none] [] (wI M 128 av.toNatClampNeg 0) v M' 0 0 := by
  have H : Ev none e 67 1 [some (.ref 104), some (.ref t), some (.int av), some (.int c), none, none] [.ref 104] M v M' 0 0 := Ev.back 1 (fun n => rfl) H
  have H : Ev none e 67 4 [some (.ref 104), some (.ref t), some (.int av), some (.int c), none, none] [.ref 128] M v M' 0 0 := Ev.back 1 (gs_3 rfl rfl (gf_u hS.1 qa_104 qr_22_4 qu_37 rfl)) H
  have H : Ev none e 67 6 [some (.ref 104), some (.ref t), some (.int av), some (.int c), none, none] [.int 0, .int av, .ref 128] M v M' 0 0 := Ev.back 2 (fun n => rfl) H
  obtain ⟨b1, H⟩ := Ev.ias rfl rfl hS.1 qa_128 qw_37 H
  obtain ⟨N2, eN2⟩ : ∃ N, N = (wI M 128 av.toNatClampNeg 0) := ⟨_, rfl⟩
  have hN2 : SQ N2 := by rw [eN2]; exact hS.ki
  have H : Ev none e 67 7 [some (.ref 104), some (.ref t), some (.int av), some (.int c), none, none] [] N2 v M' 0 0 := by rw [eN2]; exact H
  have H : Ev none e 67 10 [some (.ref 104), some (.ref t), some (.int av), some (.int c), some (.int 0), none] [] N2 v M' 0 0 := Ev.back 2 (fun n => rfl) H
  have HF := H
  subst eN2
  exact ⟨b1, HF⟩
theorem loo_10 {e : Nat} {M M' : Mem} {v : Option Value} {av c i : Int32} {t : Nat} {c5 : Option Value} (hS : SQ M) (a_t : gNth sT t = some 28) (H : Ev none e 67 10 [some (.ref 104), some (.ref t), some (.int av), some (.int c), some (.int i), c5] [] M v M' 0 0) : (7 ≤ i ∧ Ev none e 67 36 [some (.ref 104), some (.ref t), some (.int av), some (.int c), some (.int 0), c5] [] M v M' 0 0) ∨ (¬ (7 ≤ i) ∧ (0 ≤ i.toInt ∧ i.toInt < 7) ∧ (0 ≤ av.toInt ∧ av.toInt < 1536) ∧ Ev none e 67 10 [some (.ref 104), some (.ref t), some (.int av), some (.int c), some (.int (i + 1)), c5] [] (wI M (oI M 129 i) av.toNatClampNeg 0) v M' 0 0) := by
  have H : Ev none e 67 (if 7 ≤ i then 33 else 17) [some (.ref 104), some (.ref t), some (.int av), some (.int c), some (.int i), c5] [] M v M' 0 0 := Ev.back 3 (fun n => rfl) H
  by_cases h1 : 7 ≤ i
  · rw [if_pos h1] at H
    have H : Ev none e 67 36 [some (.ref 104), some (.ref t), some (.int av), some (.int c), some (.int 0), c5] [] M v M' 0 0 := Ev.back 2 (fun n => rfl) H
    have HF := H
    exact Or.inl ⟨h1, HF⟩
  · rw [if_neg h1] at H
    have H : Ev none e 67 18 [some (.ref 104), some (.ref t), some (.int av), some (.int c), some (.int i), c5] [.ref 104] M v M' 0 0 := Ev.back 1 (fun n => rfl) H
    have H : Ev none e 67 21 [some (.ref 104), some (.ref t), some (.int av), some (.int c), some (.int i), c5] [.ref 129] M v M' 0 0 := Ev.back 1 (gs_3 rfl rfl (gf_u hS.1 qa_104 qr_22_5 qu_38 rfl)) H
    have H : Ev none e 67 23 [some (.ref 104), some (.ref t), some (.int av), some (.int c), some (.int i), c5] [.int i, .ref 129] M v M' 0 0 := Ev.back 1 (fun n => rfl) H
    obtain ⟨b2, H⟩ := Ev.aal rfl rfl hS.1 qa_129 qz_38 H
    have H : Ev none e 67 24 [some (.ref 104), some (.ref t), some (.int av), some (.int c), some (.int i), c5] [.ref (oI M 129 i)] M v M' 0 0 := H
    have H : Ev none e 67 26 [some (.ref 104), some (.ref t), some (.int av), some (.int c), some (.int i), c5] [.int 0, .int av, .ref (oI M 129 i)] M v M' 0 0 := Ev.back 2 (fun n => rfl) H
    obtain ⟨b3, H⟩ := Ev.ias rfl rfl hS.1 b2.2 qw_39 H
    obtain ⟨N4, eN4⟩ : ∃ N, N = (wI M (oI M 129 i) av.toNatClampNeg 0) := ⟨_, rfl⟩
    have hN4 : SQ N4 := by rw [eN4]; exact hS.ki
    have H : Ev none e 67 27 [some (.ref 104), some (.ref t), some (.int av), some (.int c), some (.int i), c5] [] N4 v M' 0 0 := by rw [eN4]; exact H
    have H : Ev none e 67 10 [some (.ref 104), some (.ref t), some (.int av), some (.int c), some (.int (i + 1)), c5] [] N4 v M' 0 0 := Ev.back 2 (fun n => rfl) H
    have HF := H
    subst eN4
    exact Or.inr (⟨h1, b2.1, b3, HF⟩)
theorem loo_36 {e : Nat} {M M' : Mem} {v : Option Value} {av c i : Int32} {t : Nat} {c5 : Option Value} (hS : SQ M) (a_t : gNth sT t = some 28) (H : Ev none e 67 36 [some (.ref 104), some (.ref t), some (.int av), some (.int c), some (.int i), c5] [] M v M' 0 0) : ((zI M t 8) ≤ i ∧ v = none ∧ M' = M) ∨ (¬ ((zI M t 8) ≤ i) ∧ (rI M (t + 1) i) = 5 ∧ (0 ≤ i.toInt ∧ i.toInt < 16) ∧ (∃ e1 v1 M1, e = e1 + 1 ∧ Ev none e1 70 0 [some (.ref 104), some (.ref t), some (.int i), some (.int c), none, none, none, none, none] [] M v1 M1 0 0 ∧ Ev none e 67 88 [some (.ref 104), some (.ref t), some (.int av), some (.int c), some (.int i), some (.int 1)] (v1.toList ++ []) M1 v M' 0 0)) ∨ (¬ ((zI M t 8) ≤ i) ∧ ¬ ((rI M (t + 1) i) = 5) ∧ (rI M (t + 1) i) = 6 ∧ (0 ≤ i.toInt ∧ i.toInt < 16) ∧ (0 ≤ i.toInt ∧ i.toInt < 16) ∧ (∃ e1 v1 M1, e = e1 + 1 ∧ Ev none e1 70 0 [some (.ref 104), some (.ref t), some (.int i), some (.int c), none, none, none, none, none] [] M v1 M1 0 0 ∧ Ev none e 67 88 [some (.ref 104), some (.ref t), some (.int av), some (.int c), some (.int i), some (.int 1)] (v1.toList ++ []) M1 v M' 0 0)) ∨ (¬ ((zI M t 8) ≤ i) ∧ ¬ ((rI M (t + 1) i) = 5) ∧ ¬ ((rI M (t + 1) i) = 6) ∧ (0 ≤ i.toInt ∧ i.toInt < 16) ∧ (0 ≤ i.toInt ∧ i.toInt < 16) ∧ Ev none e 67 36 [some (.ref 104), some (.ref t), some (.int av), some (.int c), some (.int (i + 1)), some (.int 0)] [] M v M' 0 0) := by
  have H : Ev none e 67 39 [some (.ref 104), some (.ref t), some (.int av), some (.int c), some (.int i), c5] [.ref t, .int i] M v M' 0 0 := Ev.back 2 (fun n => rfl) H
  have H : Ev none e 67 42 [some (.ref 104), some (.ref t), some (.int av), some (.int c), some (.int i), c5] [.int (zI M t 8), .int i] M v M' 0 0 := Ev.back 1 (gs_3 rfl rfl (gf_i hS.1 a_t qi_28_8 rfl)) H
  have H : Ev none e 67 (if (zI M t 8) ≤ i then 143 else 45) [some (.ref 104), some (.ref t), some (.int av), some (.int c), some (.int i), c5] [] M v M' 0 0 := Ev.back 1 (fun n => rfl) H
  by_cases h1 : (zI M t 8) ≤ i
  · rw [if_pos h1] at H
    obtain ⟨z1, z2⟩ := Ev.retb (fun n => rfl) H
    exact Or.inl ⟨h1, z1, z2⟩
  · rw [if_neg h1] at H
    have H : Ev none e 67 46 [some (.ref 104), some (.ref t), some (.int av), some (.int c), some (.int i), c5] [.ref t] M v M' 0 0 := Ev.back 1 (fun n => rfl) H
    have H : Ev none e 67 49 [some (.ref 104), some (.ref t), some (.int av), some (.int c), some (.int i), c5] [.ref (t + 1)] M v M' 0 0 := Ev.back 1 (gs_3 rfl rfl (gf_x hS.1 a_t qo_28 (fx_t0 hS a_t) rfl)) H
    have H : Ev none e 67 51 [some (.ref 104), some (.ref t), some (.int av), some (.int c), some (.int i), c5] [.int i, .ref (t + 1)] M v M' 0 0 := Ev.back 1 (fun n => rfl) H
    obtain ⟨b2, H⟩ := Ev.ial rfl rfl hS.1 (fx_g0 a_t) qw_29 H
    have H : Ev none e 67 52 [some (.ref 104), some (.ref t), some (.int av), some (.int c), some (.int i), c5] [.int (rI M (t + 1) i)] M v M' 0 0 := H
    have H : Ev none e 67 (if (rI M (t + 1) i) = 5 then 68 else 56) [some (.ref 104), some (.ref t), some (.int av), some (.int c), some (.int i), c5] [] M v M' 0 0 := Ev.back 2 (fun n => rfl) H
    by_cases h3 : (rI M (t + 1) i) = 5
    · rw [if_pos h3] at H
      have H : Ev none e 67 (if 1 = 0 then 137 else 80) [some (.ref 104), some (.ref t), some (.int av), some (.int c), some (.int i), some (.int 1)] [] M v M' 0 0 := Ev.back 5 (fun n => rfl) H
      rw [if_neg (by decide)] at H
      have H : Ev none e 67 85 [some (.ref 104), some (.ref t), some (.int av), some (.int c), some (.int i), some (.int 1)] [.int c, .int i, .ref t, .ref 104] M v M' 0 0 := Ev.back 4 (fun n => rfl) H
      obtain ⟨e1, rfl⟩ := Ev.dpos rfl rfl H
      obtain ⟨vK4, MK4, K4, H⟩ := Ev.callb (fun n_ => gs_7 rfl rfl (show gCal (.invokevirtual 212) 7 (.int c :: .int i :: .ref t :: .ref 104 :: []) M = some (.inr (70, [some (.ref 104), some (.ref t), some (.int i), some (.int c), none, none, none, none, none], [])) from by show @cond (Option ((List Value × Mem) ⊕ (Nat × Lo × List Value))) (true && gRecv M (.ref 104) 7 && gRoom [] && true) (some (.inr (70, [some (.ref 104), some (.ref t), some (.int i), some (.int c), none, none, none, none, none], []))) none = _; rw [recv_s hS.1 qa_104 qo_22]; rfl)) H
      have K4 : Ev none e1 70 0 [some (.ref 104), some (.ref t), some (.int i), some (.int c), none, none, none, none, none] [] M vK4 MK4 0 0 := K4
      have HF := H
      exact Or.inr (Or.inl ⟨h1, h3, b2, ⟨e1, vK4, MK4, rfl, K4, HF⟩⟩)
    · rw [if_neg h3] at H
      have H : Ev none e 67 57 [some (.ref 104), some (.ref t), some (.int av), some (.int c), some (.int i), c5] [.ref t] M v M' 0 0 := Ev.back 1 (fun n => rfl) H
      have H : Ev none e 67 60 [some (.ref 104), some (.ref t), some (.int av), some (.int c), some (.int i), c5] [.ref (t + 1)] M v M' 0 0 := Ev.back 1 (gs_3 rfl rfl (gf_x hS.1 a_t qo_28 (fx_t0 hS a_t) rfl)) H
      have H : Ev none e 67 62 [some (.ref 104), some (.ref t), some (.int av), some (.int c), some (.int i), c5] [.int i, .ref (t + 1)] M v M' 0 0 := Ev.back 1 (fun n => rfl) H
      obtain ⟨b5, H⟩ := Ev.ial rfl rfl hS.1 (fx_g0 a_t) qw_29 H
      have H : Ev none e 67 63 [some (.ref 104), some (.ref t), some (.int av), some (.int c), some (.int i), c5] [.int (rI M (t + 1) i)] M v M' 0 0 := H
      have H : Ev none e 67 (if (rI M (t + 1) i) = 6 then 68 else 72) [some (.ref 104), some (.ref t), some (.int av), some (.int c), some (.int i), c5] [] M v M' 0 0 := Ev.back 2 (fun n => rfl) H
      by_cases h6 : (rI M (t + 1) i) = 6
      · rw [if_pos h6] at H
        have H : Ev none e 67 (if 1 = 0 then 137 else 80) [some (.ref 104), some (.ref t), some (.int av), some (.int c), some (.int i), some (.int 1)] [] M v M' 0 0 := Ev.back 5 (fun n => rfl) H
        rw [if_neg (by decide)] at H
        have H : Ev none e 67 85 [some (.ref 104), some (.ref t), some (.int av), some (.int c), some (.int i), some (.int 1)] [.int c, .int i, .ref t, .ref 104] M v M' 0 0 := Ev.back 4 (fun n => rfl) H
        obtain ⟨e1, rfl⟩ := Ev.dpos rfl rfl H
        obtain ⟨vK7, MK7, K7, H⟩ := Ev.callb (fun n_ => gs_7 rfl rfl (show gCal (.invokevirtual 212) 7 (.int c :: .int i :: .ref t :: .ref 104 :: []) M = some (.inr (70, [some (.ref 104), some (.ref t), some (.int i), some (.int c), none, none, none, none, none], [])) from by show @cond (Option ((List Value × Mem) ⊕ (Nat × Lo × List Value))) (true && gRecv M (.ref 104) 7 && gRoom [] && true) (some (.inr (70, [some (.ref 104), some (.ref t), some (.int i), some (.int c), none, none, none, none, none], []))) none = _; rw [recv_s hS.1 qa_104 qo_22]; rfl)) H
        have K7 : Ev none e1 70 0 [some (.ref 104), some (.ref t), some (.int i), some (.int c), none, none, none, none, none] [] M vK7 MK7 0 0 := K7
        have HF := H
        exact Or.inr (Or.inr (Or.inl ⟨h1, h3, h6, b2, b5, ⟨e1, vK7, MK7, rfl, K7, HF⟩⟩))
      · rw [if_neg h6] at H
        have H : Ev none e 67 (if 0 = 0 then 137 else 80) [some (.ref 104), some (.ref t), some (.int av), some (.int c), some (.int i), some (.int 0)] [] M v M' 0 0 := Ev.back 4 (fun n => rfl) H
        rw [if_pos (by decide)] at H
        have H : Ev none e 67 36 [some (.ref 104), some (.ref t), some (.int av), some (.int c), some (.int (i + 1)), some (.int 0)] [] M v M' 0 0 := Ev.back 2 (fun n => rfl) H
        have HF := H
        exact Or.inr (Or.inr (Or.inr (⟨h1, h3, h6, b2, b5, HF⟩)))
theorem loo_88 {e : Nat} {M M' : Mem} {v : Option Value} {av c i y : Int32} {t : Nat} {c5 : Option Value} (hS : SQ M) (a_t : gNth sT t = some 28) (H : Ev none e 67 88 [some (.ref 104), some (.ref t), some (.int av), some (.int c), some (.int i), c5] [.int y] M v M' 0 0) : (y = 0 ∧ Ev none e 67 36 [some (.ref 104), some (.ref t), some (.int av), some (.int c), some (.int (i + 1)), c5] [] M v M' 0 0) ∨ (¬ (y = 0) ∧ (rI M (t + 1) i) = 6 ∧ (0 ≤ i.toInt ∧ i.toInt < 16) ∧ (0 ≤ av.toInt ∧ av.toInt < 1536) ∧ Ev none e 67 36 [some (.ref 104), some (.ref t), some (.int av), some (.int c), some (.int (i + 1)), c5] [] (wI M 128 av.toNatClampNeg 1) v M' 0 0) ∨ (¬ (y = 0) ∧ ¬ ((rI M (t + 1) i) = 6) ∧ (0 ≤ i.toInt ∧ i.toInt < 16) ∧ (0 ≤ i.toInt ∧ i.toInt < 16) ∧ (0 ≤ (rI M (t + 2) i).toInt ∧ (rI M (t + 2) i).toInt < 7) ∧ (0 ≤ av.toInt ∧ av.toInt < 1536) ∧ (0 ≤ i.toInt ∧ i.toInt < 16) ∧ (0 ≤ av.toInt ∧ av.toInt < 1536) ∧ Ev none e 67 36 [some (.ref 104), some (.ref t), some (.int av), some (.int c), some (.int (i + 1)), c5] [] (wI M (oI M 129 (rI M (t + 2) i)) av.toNatClampNeg ((rI M (oI M 129 (rI M (t + 2) i)) av) + (rI M (t + 3) i))) v M' 0 0) := by
  have H : Ev none e 67 (if y = 0 then 137 else 91) [some (.ref 104), some (.ref t), some (.int av), some (.int c), some (.int i), c5] [] M v M' 0 0 := Ev.back 1 (fun n => rfl) H
  by_cases h1 : y = 0
  · rw [if_pos h1] at H
    have H : Ev none e 67 36 [some (.ref 104), some (.ref t), some (.int av), some (.int c), some (.int (i + 1)), c5] [] M v M' 0 0 := Ev.back 2 (fun n => rfl) H
    have HF := H
    exact Or.inl ⟨h1, HF⟩
  · rw [if_neg h1] at H
    have H : Ev none e 67 92 [some (.ref 104), some (.ref t), some (.int av), some (.int c), some (.int i), c5] [.ref t] M v M' 0 0 := Ev.back 1 (fun n => rfl) H
    have H : Ev none e 67 95 [some (.ref 104), some (.ref t), some (.int av), some (.int c), some (.int i), c5] [.ref (t + 1)] M v M' 0 0 := Ev.back 1 (gs_3 rfl rfl (gf_x hS.1 a_t qo_28 (fx_t0 hS a_t) rfl)) H
    have H : Ev none e 67 97 [some (.ref 104), some (.ref t), some (.int av), some (.int c), some (.int i), c5] [.int i, .ref (t + 1)] M v M' 0 0 := Ev.back 1 (fun n => rfl) H
    obtain ⟨b2, H⟩ := Ev.ial rfl rfl hS.1 (fx_g0 a_t) qw_29 H
    have H : Ev none e 67 98 [some (.ref 104), some (.ref t), some (.int av), some (.int c), some (.int i), c5] [.int (rI M (t + 1) i)] M v M' 0 0 := H
    have H : Ev none e 67 (if (rI M (t + 1) i) = 6 then 103 else 113) [some (.ref 104), some (.ref t), some (.int av), some (.int c), some (.int i), c5] [] M v M' 0 0 := Ev.back 2 (fun n => rfl) H
    by_cases h3 : (rI M (t + 1) i) = 6
    · rw [if_pos h3] at H
      have H : Ev none e 67 104 [some (.ref 104), some (.ref t), some (.int av), some (.int c), some (.int i), c5] [.ref 104] M v M' 0 0 := Ev.back 1 (fun n => rfl) H
      have H : Ev none e 67 107 [some (.ref 104), some (.ref t), some (.int av), some (.int c), some (.int i), c5] [.ref 128] M v M' 0 0 := Ev.back 1 (gs_3 rfl rfl (gf_u hS.1 qa_104 qr_22_4 qu_37 rfl)) H
      have H : Ev none e 67 109 [some (.ref 104), some (.ref t), some (.int av), some (.int c), some (.int i), c5] [.int 1, .int av, .ref 128] M v M' 0 0 := Ev.back 2 (fun n => rfl) H
      obtain ⟨b4, H⟩ := Ev.ias rfl rfl hS.1 qa_128 qw_37 H
      obtain ⟨N5, eN5⟩ : ∃ N, N = (wI M 128 av.toNatClampNeg 1) := ⟨_, rfl⟩
      have hN5 : SQ N5 := by rw [eN5]; exact hS.ki
      have H : Ev none e 67 110 [some (.ref 104), some (.ref t), some (.int av), some (.int c), some (.int i), c5] [] N5 v M' 0 0 := by rw [eN5]; exact H
      have H : Ev none e 67 36 [some (.ref 104), some (.ref t), some (.int av), some (.int c), some (.int (i + 1)), c5] [] N5 v M' 0 0 := Ev.back 3 (fun n => rfl) H
      have HF := H
      subst eN5
      exact Or.inr (Or.inl ⟨h1, h3, b2, b4, HF⟩)
    · rw [if_neg h3] at H
      have H : Ev none e 67 114 [some (.ref 104), some (.ref t), some (.int av), some (.int c), some (.int i), c5] [.ref 104] M v M' 0 0 := Ev.back 1 (fun n => rfl) H
      have H : Ev none e 67 117 [some (.ref 104), some (.ref t), some (.int av), some (.int c), some (.int i), c5] [.ref 129] M v M' 0 0 := Ev.back 1 (gs_3 rfl rfl (gf_u hS.1 qa_104 qr_22_5 qu_38 rfl)) H
      have H : Ev none e 67 118 [some (.ref 104), some (.ref t), some (.int av), some (.int c), some (.int i), c5] [.ref t, .ref 129] M v M' 0 0 := Ev.back 1 (fun n => rfl) H
      have H : Ev none e 67 121 [some (.ref 104), some (.ref t), some (.int av), some (.int c), some (.int i), c5] [.ref (t + 2), .ref 129] M v M' 0 0 := Ev.back 1 (gs_3 rfl rfl (gf_x hS.1 a_t qo_28 (fx_t1 hS a_t) rfl)) H
      have H : Ev none e 67 123 [some (.ref 104), some (.ref t), some (.int av), some (.int c), some (.int i), c5] [.int i, .ref (t + 2), .ref 129] M v M' 0 0 := Ev.back 1 (fun n => rfl) H
      obtain ⟨b6, H⟩ := Ev.ial rfl rfl hS.1 (fx_g1 a_t) qw_30 H
      have H : Ev none e 67 124 [some (.ref 104), some (.ref t), some (.int av), some (.int c), some (.int i), c5] [.int (rI M (t + 2) i), .ref 129] M v M' 0 0 := H
      obtain ⟨b7, H⟩ := Ev.aal rfl rfl hS.1 qa_129 qz_38 H
      have H : Ev none e 67 125 [some (.ref 104), some (.ref t), some (.int av), some (.int c), some (.int i), c5] [.ref (oI M 129 (rI M (t + 2) i))] M v M' 0 0 := H
      have H : Ev none e 67 127 [some (.ref 104), some (.ref t), some (.int av), some (.int c), some (.int i), c5] [.int av, .ref (oI M 129 (rI M (t + 2) i)), .int av, .ref (oI M 129 (rI M (t + 2) i))] M v M' 0 0 := Ev.back 2 (fun n => rfl) H
      obtain ⟨b8, H⟩ := Ev.ial rfl rfl hS.1 b7.2 qw_39 H
      have H : Ev none e 67 128 [some (.ref 104), some (.ref t), some (.int av), some (.int c), some (.int i), c5] [.int (rI M (oI M 129 (rI M (t + 2) i)) av), .int av, .ref (oI M 129 (rI M (t + 2) i))] M v M' 0 0 := H
      have H : Ev none e 67 129 [some (.ref 104), some (.ref t), some (.int av), some (.int c), some (.int i), c5] [.ref t, .int (rI M (oI M 129 (rI M (t + 2) i)) av), .int av, .ref (oI M 129 (rI M (t + 2) i))] M v M' 0 0 := Ev.back 1 (fun n => rfl) H
      have H : Ev none e 67 132 [some (.ref 104), some (.ref t), some (.int av), some (.int c), some (.int i), c5] [.ref (t + 3), .int (rI M (oI M 129 (rI M (t + 2) i)) av), .int av, .ref (oI M 129 (rI M (t + 2) i))] M v M' 0 0 := Ev.back 1 (gs_3 rfl rfl (gf_x hS.1 a_t qo_28 (fx_t2 hS a_t) rfl)) H
      have H : Ev none e 67 134 [some (.ref 104), some (.ref t), some (.int av), some (.int c), some (.int i), c5] [.int i, .ref (t + 3), .int (rI M (oI M 129 (rI M (t + 2) i)) av), .int av, .ref (oI M 129 (rI M (t + 2) i))] M v M' 0 0 := Ev.back 1 (fun n => rfl) H
      obtain ⟨b9, H⟩ := Ev.ial rfl rfl hS.1 (fx_g2 a_t) qw_31 H
      have H : Ev none e 67 135 [some (.ref 104), some (.ref t), some (.int av), some (.int c), some (.int i), c5] [.int (rI M (t + 3) i), .int (rI M (oI M 129 (rI M (t + 2) i)) av), .int av, .ref (oI M 129 (rI M (t + 2) i))] M v M' 0 0 := H
      have H : Ev none e 67 136 [some (.ref 104), some (.ref t), some (.int av), some (.int c), some (.int i), c5] [.int ((rI M (oI M 129 (rI M (t + 2) i)) av) + (rI M (t + 3) i)), .int av, .ref (oI M 129 (rI M (t + 2) i))] M v M' 0 0 := Ev.back 1 (fun n => rfl) H
      obtain ⟨b10, H⟩ := Ev.ias rfl rfl hS.1 b7.2 qw_39 H
      obtain ⟨N11, eN11⟩ : ∃ N, N = (wI M (oI M 129 (rI M (t + 2) i)) av.toNatClampNeg ((rI M (oI M 129 (rI M (t + 2) i)) av) + (rI M (t + 3) i))) := ⟨_, rfl⟩
      have hN11 : SQ N11 := by rw [eN11]; exact hS.ki
      have H : Ev none e 67 137 [some (.ref 104), some (.ref t), some (.int av), some (.int c), some (.int i), c5] [] N11 v M' 0 0 := by rw [eN11]; exact H
      have H : Ev none e 67 36 [some (.ref 104), some (.ref t), some (.int av), some (.int c), some (.int (i + 1)), c5] [] N11 v M' 0 0 := Ev.back 2 (fun n => rfl) H
      have HF := H
      subst eN11
      exact Or.inr (Or.inr (⟨h1, h3, b2, b6, b7.1, b8, b9, b10, HF⟩))
