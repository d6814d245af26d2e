/-! THE CHECKER, 2: what it knows of a state. aT: the group of each cell; gT: of each group what its cells hold; gU: the one cell of a group, where it has one alone. -/
/-- a reference: a cell, or an unknown one of some group -/
abbrev RS : Type := Nat ⊕ Nat
/-- a value: an int; a reference; 0 anything of one word, 1 a long, 2 null, 3 + j the row j that was there before -/
abbrev AV : Type := Lin ⊕ (RS ⊕ Nat)
/-- what is known of a field, or of an element of a row of ints -/
abbrev HE : Type := RS × (Nat ⊕ Lin) × AV
/-- types of fields: ints of an interval; 0 a long, 2 g + 1 a reference to group g, 2 g + 2 the same or null -/
abbrev FT : Type := Iv ⊕ Nat
/-- parts of a row: from, to (not with it), how wide a piece is, the intervals in a piece -/
abbrev SG : Type := Nat × Nat × Nat × List Iv
abbrev ET : Type := List SG ⊕ Nat
/-- groups: objects of a class with their fields; rows of a kind, how long, what they hold -/
abbrev CT : Type := (Nat × List FT) ⊕ (Nat × Nat × ET)
/-- the interval at a place of a row -/
noncomputable def sgAt : List SG → Nat → Option Iv
  | [], _ => none
  | (a, b, w, l) :: r, i => cond (Nat.ble a i && Nat.blt i b) (gNth l ((i - a) % w)) (sgAt r i)
section TM
variable (aT : List Nat) (gT : List CT)
def ftOK (t : FT) (v : Value) : Prop := match t with
  | .inl (lo, hi) => ∃ x : Int32, v = .int x ∧ lo ≤ x.toInt ∧ x.toInt ≤ hi
  | .inr 0 => ∃ x : Int64, v = .long x
  | .inr (k + 1) => (∃ a, v = .ref a ∧ gNth aT a = some (k / 2)) ∨ (k % 2 = 1 ∧ v = .null)
def ctOK (t : CT) (e : AE) : Prop := match t with
  | .inl (ci, fs) => ∃ vs, e = .inr (ci, vs) ∧ vs.length = fs.length ∧ ∀ k ft, gNth fs k = some ft → ∃ v, gNth vs k = some v ∧ ftOK aT ft v
  | .inr (2, n, _) => ∃ l : List Int64, e = .inl (2, .inr (.inl l)) ∧ l.length = n
  | .inr (kd, n, .inl sg) => ∃ l : List Int32, e = .inl (kd, .inl l) ∧ l.length = n ∧ ∀ j x, gNth l j = some x → ∃ p : Iv, sgAt sg j = some p ∧ p.1 ≤ x.toInt ∧ x.toInt ≤ p.2
  | .inr (kd, n, .inr g) => ∃ l : List (Option Nat), e = .inl (kd, .inr (.inr l)) ∧ l.length = n ∧ ∀ j x, gNth l j = some x → ∃ a, x = some a ∧ gNth aT a = some g
/-- the memory is as the groups tell -/
def TM (M : Mem) : Prop := aT.length ≤ M.length ∧ ∀ a g t, gNth aT a = some g → gNth gT g = some t → ∃ e, gNth M a = some e ∧ ctOK aT t e
end TM
/-- what may change: fields (class, field); rows of a group (1000 + group, 0) -/
abbrev Md : Type := List (Nat × Nat)
noncomputable def mdIn (md : Md) (c k : Nat) : Bool := md.any (fun q => Nat.beq q.1 c && Nat.beq q.2 k)
theorem mdIn_iff {md : Md} {c k : Nat} : mdIn md c k = true ↔ (c, k) ∈ md := by
  unfold mdIn
  rw [List.any_eq_true]
  constructor
  · rintro ⟨⟨a, b⟩, h1, h2⟩
    rw [Bool.and_eq_true] at h2
    cases Nat.eq_of_beq_eq_true h2.1
    cases Nat.eq_of_beq_eq_true h2.2
    exact h1
  · intro h
    exact ⟨_, h, by rw [Bool.and_eq_true]; exact ⟨Nat.beq_refl _, Nat.beq_refl _⟩⟩
/-- the frame: cells keep their kind; what md doesn't name is as it was -/
def Frm (aT : List Nat) (md : Md) (M M' : Mem) : Prop := M'.length = M.length ∧ (∀ a c vs, gNth M a = some (.inr (c, vs)) → ∃ vs', gNth M' a = some (.inr (c, vs')) ∧ vs'.length = vs.length ∧ ∀ k, (c, k) ∉ md → gNth vs' k = gNth vs k) ∧ (∀ a t x, gNth M a = some (.inl (t, x)) → ∃ x', gNth M' a = some (.inl (t, x')) ∧ ((∀ g, gNth aT a = some g → (1000 + g, 0) ∉ md) → x' = x))
theorem Frm.refl {aT : List Nat} {md : Md} (M : Mem) : Frm aT md M M := ⟨rfl, fun a c vs h => ⟨vs, h, rfl, fun k _ => rfl⟩, fun a t x h => ⟨x, h, fun _ => rfl⟩⟩
theorem Frm.trans {aT : List Nat} {md : Md} {M1 M2 M3 : Mem} (h : Frm aT md M1 M2) (h2 : Frm aT md M2 M3) : Frm aT md M1 M3 := by
  refine ⟨h2.1.trans h.1, fun a c vs hM => ?_, fun a t x hM => ?_⟩
  · obtain ⟨vs', e1, l1, f1⟩ := h.2.1 a c vs hM
    obtain ⟨vs2, e2, l2, f2⟩ := h2.2.1 a c vs' e1
    exact ⟨vs2, e2, l2.trans l1, fun k hk => (f2 k hk).trans (f1 k hk)⟩
  · obtain ⟨x', e1, f1⟩ := h.2.2 a t x hM
    obtain ⟨x2, e2, f2⟩ := h2.2.2 a t x' e1
    exact ⟨x2, e2, fun hg => (f2 hg).trans (f1 hg)⟩
theorem Frm.more {aT : List Nat} {md md' : Md} {M M' : Mem} (hs : ∀ q ∈ md, q ∈ md') (h : Frm aT md M M') : Frm aT md' M M' :=
  ⟨h.1, fun a c vs hM => by
    obtain ⟨vs', e1, l1, f1⟩ := h.2.1 a c vs hM
    exact ⟨vs', e1, l1, fun k hk => f1 k (fun q => hk (hs _ q))⟩, fun a t x hM => by
    obtain ⟨x', e1, f1⟩ := h.2.2 a t x hM
    exact ⟨x', e1, fun hg => f1 (fun g e q => hg g e (hs _ q))⟩⟩
noncomputable def mdSub (md md' : Md) : Bool := md.all (fun q => mdIn md' q.1 q.2)
theorem mdSub_mem {md md' : Md} (h : mdSub md md' = true) : ∀ q ∈ md, q ∈ md' := fun q hq => mdIn_iff.mp (List.all_eq_true.mp h q hq)
/-- an object's field written -/
theorem Frm.fld {aT : List Nat} {md : Md} {M : Mem} {a c k : Nat} {vs : List Value} {v : Value} (hM : gNth M a = some (.inr (c, vs))) (hm : (c, k) ∈ md) : Frm aT md M (gPut M a (.inr (c, gPut vs k v))) := by
  have hl := gNth_lt _ _ _ hM
  refine ⟨put_len _ _ _, fun a2 c2 vs2 h2 => ?_, fun a2 t x h2 => ?_⟩
  · rw [nth_put]
    by_cases e : a2 = a
    · subst e
      cases hM.symm.trans h2
      rw [if_pos ⟨rfl, hl⟩]
      refine ⟨_, rfl, put_len _ _ _, fun k2 hk2 => ?_⟩
      rw [nth_put, if_neg]
      rintro ⟨rfl, -⟩
      exact hk2 hm
    · rw [if_neg (fun q => e q.1)]
      exact ⟨vs2, h2, rfl, fun _ _ => rfl⟩
  · rw [nth_put]
    by_cases e : a2 = a
    · subst e
      cases hM.symm.trans h2
    · rw [if_neg (fun q => e q.1)]
      exact ⟨x, h2, fun _ => rfl⟩
/-- a row written -/
theorem Frm.row {aT : List Nat} {md : Md} {M : Mem} {a t g : Nat} {x y : AC} (hM : gNth M a = some (.inl (t, x))) (hg : gNth aT a = some g) (hm : (1000 + g, 0) ∈ md) : Frm aT md M (gPut M a (.inl (t, y))) := by
  have hl := gNth_lt _ _ _ hM
  refine ⟨put_len _ _ _, fun a2 c2 vs2 h2 => ?_, fun a2 t2 x2 h2 => ?_⟩
  · rw [nth_put]
    by_cases e : a2 = a
    · subst e
      cases hM.symm.trans h2
    · rw [if_neg (fun q => e q.1)]
      exact ⟨vs2, h2, rfl, fun _ _ => rfl⟩
  · rw [nth_put]
    by_cases e : a2 = a
    · subst e
      cases hM.symm.trans h2
      rw [if_pos ⟨rfl, hl⟩]
      exact ⟨y, rfl, fun hn => absurd hm (hn g hg)⟩
    · rw [if_neg (fun q => e q.1)]
      exact ⟨x2, h2, fun _ => rfl⟩
/-! what a value, the locals, the stack, the known fields mean -/
noncomputable def rsV (π : List Nat) : RS → Option Nat
  | .inl a => some a
  | .inr s => gNth π s
def avOK (ρ : List Int) (π : List Nat) (v : AV) (w : Value) : Prop := match v with
  | .inl L => ∃ x : Int32, w = .int x ∧ liV ρ L = some x.toInt
  | .inr (.inl R) => ∃ a, rsV π R = some a ∧ w = .ref a
  | .inr (.inr 0) => gC1 w = true
  | .inr (.inr 1) => ∃ x : Int64, w = .long x
  | .inr (.inr 2) => w = .null
  | .inr (.inr (j + 3)) => w = .retAddr j
def loOK (ρ : List Int) (π : List Nat) (v : AV) (w : Option Value) : Prop := match v with
  | .inr (.inr 0) => ∀ x, w = some x → gC1 x = true
  | v => ∃ x, w = some x ∧ avOK ρ π v x
/-- one by one -/
noncomputable def Two {α β : Type} (P : α → β → Prop) : List α → List β → Prop
  | [], [] => True
  | a :: as, b :: bs => P a b ∧ Two P as bs
  | _, _ => False
def heOK (ρ : List Int) (π : List Nat) (M : Mem) (e : HE) : Prop := ∃ a, rsV π e.1 = some a ∧ match e.2.1 with
  | .inl k => ∃ c vs w, gNth M a = some (.inr (c, vs)) ∧ gNth vs k = some w ∧ avOK ρ π e.2.2 w
  | .inr L => ∃ (t : Nat) (l : List Int32) (i : Nat) (x : Int32), gNth M a = some (.inl (t, .inl l)) ∧ liV ρ L = some (i : Int) ∧ gNth l i = some x ∧ avOK ρ π e.2.2 (.int x)
theorem avOK.mono {ρ ρ' : List Int} {π π' : List Nat} (h : Pre ρ ρ') (h2 : Pre π π') {v : AV} {w : Value} (hv : avOK ρ π v w) : avOK ρ' π' v w := by
  rcases v with L | R | n
  · obtain ⟨x, rfl, hx⟩ := hv
    exact ⟨x, rfl, h.liV hx⟩
  · obtain ⟨a, ha, rfl⟩ := hv
    refine ⟨a, ?_, rfl⟩
    rcases R with b | s
    · exact ha
    · exact h2.nth ha
  · match n, hv with
    | 0, hv => exact hv
    | 1, hv => exact hv
    | 2, hv => exact hv
    | n + 3, hv => exact hv
theorem rsV.mono {π π' : List Nat} (h2 : Pre π π') {R : RS} {a : Nat} (ha : rsV π R = some a) : rsV π' R = some a := by
  rcases R with b | s
  · exact ha
  · exact h2.nth ha
theorem lo_some {ρ : List Int} {π : List Nat} {v : AV} {x : Value} (h : avOK ρ π v x) : loOK ρ π v (some x) := by
  rcases v with L | R | n
  · exact ⟨x, rfl, h⟩
  · exact ⟨x, rfl, h⟩
  · match n, h with
    | 0, h => exact fun y hy => by cases hy; exact h
    | 1, h => exact ⟨x, rfl, h⟩
    | 2, h => exact ⟨x, rfl, h⟩
    | n + 3, h => exact ⟨x, rfl, h⟩
theorem lo_av {ρ : List Int} {π : List Nat} {v : AV} {w : Option Value} (h : loOK ρ π v w) (h0 : v ≠ .inr (.inr 0)) : ∃ x, w = some x ∧ avOK ρ π v x := by
  rcases v with L | R | n
  · exact h
  · exact h
  · match n, h, h0 with
    | 0, h, h0 => exact absurd rfl h0
    | 1, h, _ => exact h
    | 2, h, _ => exact h
    | n + 3, h, _ => exact h
theorem loOK.mono {ρ ρ' : List Int} {π π' : List Nat} (h : Pre ρ ρ') (h2 : Pre π π') {v : AV} {w : Option Value} (hv : loOK ρ π v w) : loOK ρ' π' v w := by
  by_cases h0 : v = .inr (.inr 0)
  · subst h0
    exact hv
  · obtain ⟨x, rfl, hx⟩ := lo_av hv h0
    exact lo_some (hx.mono h h2)
theorem heOK.mono {ρ ρ' : List Int} {π π' : List Nat} (h : Pre ρ ρ') (h2 : Pre π π') {M : Mem} {e : HE} (hv : heOK ρ π M e) : heOK ρ' π' M e := by
  obtain ⟨R, q, v⟩ := e
  obtain ⟨a, ha, hv⟩ := hv
  refine ⟨a, rsV.mono h2 ha, ?_⟩
  rcases q with k | L
  · obtain ⟨c, vs, w, e1, e2, e3⟩ := hv
    exact ⟨c, vs, w, e1, e2, avOK.mono h h2 e3⟩
  · obtain ⟨t, l, i, x, e1, e2, e3, e4⟩ := hv
    exact ⟨t, l, i, x, e1, h.liV e2, e3, avOK.mono h h2 e4⟩
theorem Two.mono {α β : Type} {P Q : α → β → Prop} (h : ∀ a b, P a b → Q a b) : ∀ {as : List α} {bs : List β}, Two P as bs → Two Q as bs
  | [], [], _ => trivial
  | _ :: _, _ :: _, h2 => ⟨h _ _ h2.1, Two.mono h h2.2⟩
  | [], _ :: _, h2 => h2.elim
  | _ :: _, [], h2 => h2.elim
theorem Two.len {α β : Type} {P : α → β → Prop} : ∀ {as : List α} {bs : List β}, Two P as bs → as.length = bs.length
  | [], [], _ => rfl
  | _ :: _, _ :: _, h2 => congrArg Nat.succ (Two.len h2.2)
  | [], _ :: _, h2 => h2.elim
  | _ :: _, [], h2 => h2.elim
theorem Two.at {α β : Type} {P : α → β → Prop} : ∀ {as : List α} {bs : List β}, Two P as bs → ∀ {i : Nat} {a : α}, gNth as i = some a → ∃ b, gNth bs i = some b ∧ P a b := by
  intro as
  induction as with
  | nil => intro bs _ i a h; cases h
  | cons x xs ih =>
    intro bs h2 i a h
    cases bs with
    | nil => exact h2.elim
    | cons y ys =>
      cases i with
      | zero => cases h; exact ⟨y, rfl, h2.1⟩
      | succ i => exact ih h2.2 h
theorem Two.put {α β : Type} {P : α → β → Prop} : ∀ {as : List α} {bs : List β}, Two P as bs → ∀ {i : Nat} {a : α} {b : β}, P a b → Two P (gPut as i a) (gPut bs i b) := by
  intro as
  induction as with
  | nil =>
    intro bs h2 i a b _
    cases bs with
    | nil => trivial
    | cons y ys => exact h2.elim
  | cons x xs ih =>
    intro bs h2 i a b h
    cases bs with
    | nil => exact h2.elim
    | cons y ys =>
      cases i with
      | zero => exact ⟨h, h2.2⟩
      | succ i => exact ⟨h2.1, ih h2.2 h⟩
theorem Two.app {α β : Type} {P : α → β → Prop} : ∀ {as as2 : List α} {bs bs2 : List β}, Two P as bs → Two P as2 bs2 → Two P (as ++ as2) (bs ++ bs2)
  | [], _, [], _, _, h => h
  | _ :: _, _, _ :: _, _, h1, h => ⟨h1.1, Two.app h1.2 h⟩
  | [], _, _ :: _, _, h1, _ => h1.elim
  | _ :: _, _, [], _, h1, _ => h1.elim
