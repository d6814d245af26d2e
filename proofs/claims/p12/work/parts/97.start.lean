/-! WHAT STANDS AT THE START: the memory of the constructors -/
noncomputable def ftB (aT : List Nat) (t : FT) (v : Value) : Bool := match t, v with
  | .inl (lo, hi), .int x => iLe lo x.toInt && iLe x.toInt hi
  | .inr 0, .long _ => true
  | .inr (k + 1), .ref a => match gNth aT a with
    | some g => Nat.beq g (k / 2)
    | none => false
  | .inr (k + 1), .null => Nat.beq (k % 2) 1
  | _, _ => false
noncomputable def ftsB (aT : List Nat) : List FT → List Value → Bool
  | [], [] => true
  | t :: ts, v :: vs => ftB aT t v && ftsB aT ts vs
  | _, _ => false
noncomputable def rowB (sg : List SG) : List Int32 → Nat → Bool
  | [], _ => true
  | x :: r, j => gPc j (fun j => (match sgAt sg j with
    | some p => iLe p.1 x.toInt && iLe x.toInt p.2
    | none => false) && rowB sg r (j + 1))
noncomputable def refB (aT : List Nat) (g : Nat) : List (Option Nat) → Bool
  | [] => true
  | some a :: r => (match gNth aT a with
    | some g2 => Nat.beq g2 g
    | none => false) && refB aT g r
  | none :: _ => false
noncomputable def ctB (aT : List Nat) (t : CT) (e : AE) : Bool := match t, e with
  | .inl (ci, fs), .inr (c, vs) => Nat.beq c ci && ftsB aT fs vs
  | .inr (2, n, _), .inl (2, .inr (.inl l)) => Nat.beq (gLn l) n
  | .inr (kd, n, .inl sg), .inl (kd2, .inl l) => (!Nat.beq kd 2 && Nat.beq kd kd2) && (Nat.beq (gLn l) n && rowB sg l 0)
  | .inr (kd, n, .inr g), .inl (kd2, .inr (.inr l)) => (!Nat.beq kd 2 && Nat.beq kd kd2) && (Nat.beq (gLn l) n && refB aT g l)
  | _, _ => false
noncomputable def tmB (aT : List Nat) (gT : List CT) : List Nat → Mem → Bool
  | [], _ => true
  | g :: gs, e :: es => (match gNth gT g with
    | some t => ctB aT t e
    | none => true) && tmB aT gT gs es
  | _ :: _, [] => false
theorem ftB_V {aT : List Nat} {t : FT} {v : Value} (h : ftB aT t v = true) : ftOK aT t v := by
  unfold ftB at h
  split at h
  · rename_i lo hi x
    obtain ⟨h1, h2⟩ := and_t h
    exact ⟨x, rfl, iLe_iff.mp h1, iLe_iff.mp h2⟩
  · exact ⟨_, rfl⟩
  · rename_i k a
    split at h
    · rename_i g e
      cases Nat.eq_of_beq_eq_true h
      exact Or.inl ⟨a, rfl, e⟩
    · cases h
  · exact Or.inr ⟨Nat.eq_of_beq_eq_true h, rfl⟩
  · cases h
theorem ftsB_V {aT : List Nat} : ∀ (ts : List FT) (vs : List Value), ftsB aT ts vs = true → vs.length = ts.length ∧ ∀ k ft, gNth ts k = some ft → ∃ v, gNth vs k = some v ∧ ftOK aT ft v := by
  intro ts
  induction ts with
  | nil =>
    intro vs h
    cases vs with
    | nil => exact ⟨rfl, fun k ft hk => by cases hk⟩
    | cons _ _ => cases h
  | cons t ts ih =>
    intro vs h
    cases vs with
    | nil => cases h
    | cons v vs =>
      obtain ⟨h1, h2⟩ := and_t h
      obtain ⟨i1, i2⟩ := ih vs h2
      refine ⟨congrArg Nat.succ i1, fun k ft hk => ?_⟩
      cases k with
      | zero => cases hk; exact ⟨v, rfl, ftB_V h1⟩
      | succ k => exact i2 k ft hk
theorem rowB_V {sg : List SG} : ∀ (l : List Int32) (j0 : Nat), rowB sg l j0 = true → ∀ j x, gNth l j = some x → ∃ p : Iv, sgAt sg (j0 + j) = some p ∧ p.1 ≤ x.toInt ∧ x.toInt ≤ p.2 := by
  intro l
  induction l with
  | nil => intro j0 _ j x hj; cases hj
  | cons y r ih =>
    intro j0 h j x hj
    have h : gPc j0 (fun j => (match sgAt sg j with
      | some p => iLe p.1 y.toInt && iLe y.toInt p.2
      | none => false) && rowB sg r (j + 1)) = true := h
    rw [gPc_eq] at h
    obtain ⟨h1, h2⟩ := and_t h
    cases j with
    | zero =>
      cases hj
      split at h1
      · rename_i p e
        obtain ⟨h3, h4⟩ := and_t h1
        exact ⟨p, e, iLe_iff.mp h3, iLe_iff.mp h4⟩
      · cases h1
    | succ j =>
      obtain ⟨p, q1, q2⟩ := ih (j0 + 1) h2 j x hj
      exact ⟨p, by rw [show j0 + (j + 1) = j0 + 1 + j by omega]; exact q1, q2⟩
theorem refB_V {aT : List Nat} {g : Nat} : ∀ (l : List (Option Nat)), refB aT g l = true → ∀ j x, gNth l j = some x → ∃ a, x = some a ∧ gNth aT a = some g := by
  intro l
  induction l with
  | nil => intro _ j x hj; cases hj
  | cons y r ih =>
    intro h j x hj
    cases y with
    | none => cases h
    | some a =>
      obtain ⟨h1, h2⟩ := and_t h
      cases j with
      | zero =>
        cases hj
        split at h1
        · rename_i g2 e
          cases Nat.eq_of_beq_eq_true h1
          exact ⟨a, rfl, e⟩
        · cases h1
      | succ j => exact ih h2 j x hj
theorem gln_len {α : Type} (l : List α) : gLn l = l.length := by
  induction l with
  | nil => rfl
  | cons x xs ih =>
    show gLn xs + 1 = xs.length + 1
    rw [ih]
theorem ctB_V {aT : List Nat} {t : CT} {e : AE} (h : ctB aT t e = true) : ctOK aT t e := by
  unfold ctB at h
  split at h
  · rename_i ci fs c vs
    obtain ⟨h1, h2⟩ := and_t h
    cases Nat.eq_of_beq_eq_true h1
    obtain ⟨i1, i2⟩ := ftsB_V fs vs h2
    exact ⟨vs, rfl, i1, i2⟩
  · rename_i n et l
    exact ⟨l, rfl, by rw [← gln_len]; exact Nat.eq_of_beq_eq_true h⟩
  · rename_i kd n sg kd2 l
    obtain ⟨h1, h2⟩ := and_t h
    obtain ⟨h3, h4⟩ := and_t h1
    obtain ⟨h5, h6⟩ := and_t h2
    cases Nat.eq_of_beq_eq_true h4
    have hk : kd ≠ 2 := by
      rintro rfl
      cases h3
    exact ct_mk hk (by rw [← gln_len]; exact Nat.eq_of_beq_eq_true h5) (fun j x hj => by
      have := rowB_V l 0 h6 j x hj
      rw [Nat.zero_add] at this
      exact this)
  · rename_i kd n g kd2 l
    obtain ⟨h1, h2⟩ := and_t h
    obtain ⟨h3, h4⟩ := and_t h1
    obtain ⟨h5, h6⟩ := and_t h2
    cases Nat.eq_of_beq_eq_true h4
    have hk : kd ≠ 2 := by
      rintro rfl
      cases h3
    exact ct_mkr hk (by rw [← gln_len]; exact Nat.eq_of_beq_eq_true h5) (refB_V l h6)
  · cases h
theorem tmB_V {aT : List Nat} {gT : List CT} : ∀ (gs : List Nat) (M : Mem), tmB aT gT gs M = true → gs.length ≤ M.length ∧ ∀ a g t, gNth gs a = some g → gNth gT g = some t → ∃ e, gNth M a = some e ∧ ctOK aT t e := by
  intro gs
  induction gs with
  | nil => intro M _; exact ⟨Nat.zero_le _, fun a g t h => by cases h⟩
  | cons g gs ih =>
    intro M h
    cases M with
    | nil => cases h
    | cons e es =>
      obtain ⟨h1, h2⟩ := and_t h
      obtain ⟨i1, i2⟩ := ih es h2
      refine ⟨Nat.succ_le_succ i1, fun a g2 t ha ht => ?_⟩
      cases a with
      | zero =>
        cases ha
        rw [ht] at h1
        exact ⟨e, rfl, ctB_V h1⟩
      | succ a => exact i2 a g2 t ha ht
set_option maxRecDepth 400000 in
theorem tm0_k : tmB sT sG sT mem0 = true := by decide +kernel
theorem tm0 : TM sT sG mem0 := tmB_V sT mem0 tm0_k
noncomputable def zrB (a kd n : Nat) : Bool := match gNth mem0 a with
  | some (.inl (k, .inl l)) => Nat.beq k kd && (l.drop n).all (fun x => iEq x.toInt 0)
  | _ => false
theorem zrB_V {a kd n : Nat} (h : zrB a kd n = true) : ∃ l : List Int32, gNth mem0 a = some (.inl (kd, .inl l)) ∧ ∀ i x, gNth l i = some x → n ≤ i → x = 0 := by
  unfold zrB at h
  split at h
  · rename_i k l e
    obtain ⟨h1, h2⟩ := and_t h
    cases Nat.eq_of_beq_eq_true h1
    refine ⟨l, e, fun i x hx hi => ?_⟩
    have hm : x ∈ l.drop n := by
      rw [nth_eq] at hx
      have h3 : (l.drop n)[i - n]? = some x := by
        rw [List.getElem?_drop, show n + (i - n) = i by omega]
        exact hx
      exact List.mem_of_getElem? h3
    have h4 := iEq_V (List.all_eq_true.mp h2 x hm)
    exact Int32.toInt_inj.mp (show x.toInt = 0 from h4)
  · cases h
set_option maxRecDepth 400000 in
theorem zr0 : (zrB 639 1 0 && zrB 638 3 0 && zrB 635 1 2) = true := by decide +kernel
/-- the reference at its start -/
theorem inv0 : INVr mem0 := by
  obtain ⟨h, z3⟩ := and_t zr0
  obtain ⟨z1, z2⟩ := and_t h
  obtain ⟨lm, a1, a2⟩ := zrB_V z1
  obtain ⟨lb, b1, b2⟩ := zrB_V z2
  obtain ⟨ls, c1, c2⟩ := zrB_V z3
  obtain ⟨lf, d1, _⟩ := tm0.mrow sT_643 rw_71
  obtain ⟨lt, e1, _⟩ := tm0.mrow sT_644 rw_72
  obtain ⟨lp, f1, _⟩ := tm0.mrow sT_645 (and_t (and_t (and_t rwT).1).1).1
  obtain ⟨lk, g1, _⟩ := tm0.mrow sT_more.2.1 rw_64
  refine ⟨tm0, (show P24 mem0 from ⟨lm, lf, lt, lp, a1, d1, e1, f1, fun i v hv _ => ?_⟩), (show P28 mem0 from ⟨1, ls, c1, fun p p1 p2 p3 y hy hy1 => ?_, fun w h n _ _ hn => ?_⟩), (show P32 mem0 from ⟨1, 3, lk, lb, g1, b1, fun k b hb hb0 => absurd (b2 k b hb (Nat.zero_le k)) hb0⟩)⟩
  · have := a2 i v hv (Nat.zero_le i)
    subst this
    have o : (0 : Int32).toInt = 0 := rfl
    exact ⟨by omega, fun j j1 j2 => by omega⟩
  · have := c2 _ _ hy (by omega)
    subst this
    exact absurd hy1 (by decide)
  · have := c2 _ _ hn (by omega)
    subst this
    have o : (0 : Int32).toInt = 0 := rfl
    exact ⟨by omega, fun i j hi => by omega⟩
