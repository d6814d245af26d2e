/-! THE CHECKER, 6: fields and rows -/
noncomputable def rsEq : RS → RS → Bool
  | .inl a, .inl b => Nat.beq a b
  | .inr a, .inr b => Nat.beq a b
  | _, _ => false
theorem rsEq_V {a b : RS} (h : rsEq a b = true) : a = b := by
  rcases a with a | a <;> rcases b with b | b
  · cases Nat.eq_of_beq_eq_true h; rfl
  · cases h
  · cases h
  · cases Nat.eq_of_beq_eq_true h; rfl
noncomputable def iEq (a b : Int) : Bool := match a, b with
  | .ofNat m, .ofNat n => Nat.beq m n
  | .negSucc m, .negSucc n => Nat.beq m n
  | _, _ => false
theorem iEq_V {a b : Int} (h : iEq a b = true) : a = b := by
  cases a <;> cases b
  · cases Nat.eq_of_beq_eq_true h; rfl
  · cases h
  · cases h
  · cases Nat.eq_of_beq_eq_true h; rfl
noncomputable def lnEq : Ln → Ln → Bool
  | [], [] => true
  | (s, c) :: r, (t, d) :: u => Nat.beq s t && (iEq c d && lnEq r u)
  | _, _ => false
theorem lnEq_V : ∀ {a b : Ln}, lnEq a b = true → a = b
  | [], [], _ => rfl
  | (s, c) :: r, (t, d) :: u, h => by
    have h : (Nat.beq s t && (iEq c d && lnEq r u)) = true := h
    rw [Bool.and_eq_true, Bool.and_eq_true] at h
    cases Nat.eq_of_beq_eq_true h.1
    cases iEq_V h.2.1
    cases lnEq_V h.2.2
    rfl
  | [], _ :: _, h => by cases h
  | _ :: _, [], h => by cases h
noncomputable def kyEq : Nat ⊕ Lin → Nat ⊕ Lin → Bool
  | .inl a, .inl b => Nat.beq a b
  | .inr a, .inr b => lnEq a.1 b.1 && iEq a.2 b.2
  | _, _ => false
theorem kyEq_V {a b : Nat ⊕ Lin} (h : kyEq a b = true) : a = b := by
  rcases a with a | a <;> rcases b with b | b
  · cases Nat.eq_of_beq_eq_true h; rfl
  · cases h
  · cases h
  · have h : (lnEq a.1 b.1 && iEq a.2 b.2) = true := h
    rw [Bool.and_eq_true] at h
    obtain ⟨a1, a2⟩ := a
    obtain ⟨b1, b2⟩ := b
    cases lnEq_V h.1
    cases iEq_V h.2
    rfl
noncomputable def hpG : List HE → RS → Nat ⊕ Lin → Option AV
  | [], _, _ => none
  | (R, q, v) :: r, R2, q2 => cond (rsEq R R2 && kyEq q q2) (some v) (hpG r R2 q2)
theorem hpG_V : ∀ {hp : List HE} {R : RS} {q : Nat ⊕ Lin} {v : AV}, hpG hp R q = some v → (R, q, v) ∈ hp
  | [], _, _, _, h => by cases h
  | (R1, q1, v1) :: r, R, q, v, h => by
    have h : cond (rsEq R1 R && kyEq q1 q) (some v1) (hpG r R q) = some v := h
    cases hb : rsEq R1 R && kyEq q1 q with
    | true =>
      rw [hb] at h
      rw [Bool.and_eq_true] at hb
      cases rsEq_V hb.1
      cases kyEq_V hb.2
      cases h
      exact List.mem_cons_self
    | false =>
      rw [hb] at h
      exact List.mem_cons_of_mem _ (hpG_V h)
/-! places of rows: the interval there -/
noncomputable def lnDv (w : Nat) : Ln → Bool
  | [] => true
  | (_, c) :: r => iEq (c % (w : Int)) 0 && lnDv w r
theorem lnDv_V {ρ : List Int} {w : Nat} : ∀ {l : Ln} {v : Int}, lnDv w l = true → lnV ρ l = some v → (w : Int) ∣ v
  | [], v, _, h2 => by cases h2; exact Int.dvd_zero _
  | (s, c) :: r, v, h, h2 => by
    have h : (iEq (c % (w : Int)) 0 && lnDv w r) = true := h
    rw [Bool.and_eq_true] at h
    obtain ⟨x, y, h3, h4, rfl⟩ := lnV_cons h2
    exact Int.dvd_add (Int.dvd_trans (Int.dvd_of_emod_eq_zero (iEq_V h.1)) (Int.dvd_mul_right c x)) (lnDv_V h.2 h4)
/-- the intervals that a part of a row may hold at a form between a and b -/
noncomputable def sgI (L : Lin) (a b : Int) (s : SG) : List Iv := cond (iLe (s.2.1 : Int) a || iLe (b + 1) (s.1 : Int)) [] (cond (iLe (s.1 : Int) a && (iLe (b + 1) (s.2.1 : Int) && lnDv s.2.2.1 L.1)) (match gNth s.2.2.2 ((L.2 - s.1) % (s.2.2.1 : Int)).toNat with
  | some p => [p]
  | none => []) s.2.2.2)
theorem sgI_V {ρ : List Int} {L : Lin} {i : Nat} {a b : Int} (hv : liV ρ L = some (i : Int)) (h1 : a ≤ i) (h2 : (i : Int) ≤ b) {s : SG} (hi : (Nat.ble s.1 i && Nat.blt i s.2.1) = true) {p : Iv} (hp : gNth s.2.2.2 ((i - s.1) % s.2.2.1) = some p) : p ∈ sgI L a b s := by
  obtain ⟨s1, s2, w, l⟩ := s
  rw [Bool.and_eq_true] at hi
  have i1 : s1 ≤ i := Nat.le_of_ble_eq_true hi.1
  have i2 : i < s2 := blt_lt hi.2
  have hp : gNth l ((i - s1) % w) = some p := hp
  unfold sgI
  have c1 : (iLe (s2 : Int) a || iLe (b + 1) (s1 : Int)) = false := by
    cases hc : iLe (s2 : Int) a || iLe (b + 1) (s1 : Int) with
    | false => rfl
    | true =>
      rw [Bool.or_eq_true] at hc
      rcases hc with hc | hc
      · have := iLe_iff.mp hc
        omega
      · have := iLe_iff.mp hc
        omega
  dsimp only
  rw [c1]
  show p ∈ cond _ _ _
  cases hc : iLe (s1 : Int) a && (iLe (b + 1) (s2 : Int) && lnDv w L.1) with
  | false => exact gNth_mem _ _ _ hp
  | true =>
    rw [Bool.and_eq_true, Bool.and_eq_true] at hc
    obtain ⟨x, hx, e⟩ := liV_inv hv
    have hd := lnDv_V hc.2.2 hx
    have e2 : ((L.2 - s1) % (w : Int)).toNat = (i - s1) % w := by
      have e3 : (L.2 - s1) % (w : Int) = ((i : Int) - s1) % (w : Int) := by
        have : (i : Int) - s1 = (L.2 - s1) + x := by omega
        rw [this, Int.add_emod, Int.emod_eq_zero_of_dvd hd, Int.add_zero, Int.emod_emod]
      have e4 : (i : Int) - s1 = ((i - s1 : Nat) : Int) := by omega
      rw [e3, e4, ← Int.natCast_emod]
      rfl
    show p ∈ (match gNth l ((L.2 - s1) % (w : Int)).toNat with
      | some p => [p]
      | none => [])
    rw [e2, hp]
    exact List.mem_singleton.mpr rfl
noncomputable def sgIs (L : Lin) (a b : Int) : List SG → List Iv
  | [] => []
  | s :: r => sgI L a b s ++ sgIs L a b r
theorem sgIs_V {ρ : List Int} {L : Lin} {i : Nat} {a b : Int} (hv : liV ρ L = some (i : Int)) (h1 : a ≤ i) (h2 : (i : Int) ≤ b) : ∀ {sg : List SG} {p : Iv}, sgAt sg i = some p → p ∈ sgIs L a b sg
  | [], p, h => by cases h
  | (s1, s2, w, l) :: r, p, h => by
    have h : cond (Nat.ble s1 i && Nat.blt i s2) (gNth l ((i - s1) % w)) (sgAt r i) = some p := h
    show p ∈ sgI L a b (s1, s2, w, l) ++ sgIs L a b r
    cases hb : Nat.ble s1 i && Nat.blt i s2 with
    | true =>
      rw [hb] at h
      exact List.mem_append.mpr (Or.inl (sgI_V hv h1 h2 hb h))
    | false =>
      rw [hb] at h
      exact List.mem_append.mpr (Or.inr (sgIs_V hv h1 h2 h))
noncomputable def ivJ : List Iv → Option Iv
  | [] => none
  | p :: r => match ivJ r with
    | none => some p
    | some q => some (iMin p.1 q.1, iMax p.2 q.2)
theorem ivJ_V : ∀ {l : List Iv} {p : Iv}, p ∈ l → ∃ q, ivJ l = some q ∧ q.1 ≤ p.1 ∧ p.2 ≤ q.2
  | [], p, h => by cases h
  | x :: r, p, h => by
    rcases List.mem_cons.mp h with rfl | h
    · unfold ivJ
      split
      · exact ⟨_, rfl, Int.le_refl _, Int.le_refl _⟩
      · exact ⟨_, rfl, iMin_le.1, le_iMax.1⟩
    · obtain ⟨q, e, h1, h2⟩ := ivJ_V h
      unfold ivJ
      rw [e]
      exact ⟨_, rfl, Int.le_trans iMin_le.2 h1, Int.le_trans h2 le_iMax.2⟩
noncomputable def inR (g : List Iv) (fs : List Lin) (L : Lin) (lo hi : Int) : Bool := nn g fs (liAdc L (-lo)) && nn g fs (liSub (liC hi) L)
theorem inR_V {ρ : List Int} {g : List Iv} {fs : List Lin} (hg : gOK ρ g) (hf : fOK ρ fs) {L : Lin} {v lo hi : Int} (h : inR g fs L lo hi = true) (hv : liV ρ L = some v) : lo ≤ v ∧ v ≤ hi := by
  unfold inR at h
  rw [Bool.and_eq_true] at h
  have h1 := nn_V hg hf h.1 (liAdc_V _ hv)
  have h2 := nn_V hg hf h.2 (liSub_V (liC_V hi) hv)
  omega
theorem at_of {α : Type} {l : List α} {x : Int32} {n : Nat} (hl : l.length = n) (h1 : 0 ≤ x.toInt) (h2 : x.toInt ≤ (n : Int) - 1) : ∃ y, gAt l x = some y ∧ gNth l x.toNatClampNeg = some y ∧ x.toInt = (x.toNatClampNeg : Int) ∧ x.toNatClampNeg < l.length := by
  obtain ⟨j, hj, rfl, e⟩ := nI_nn h1
  have hc : (nI j).toNatClampNeg = j := nI_clamp hj
  obtain ⟨y, hy⟩ := nth_some (l := l) (i := j) (by omega)
  refine ⟨y, ?_, by rw [hc]; exact hy, by rw [hc]; exact e, by rw [hc]; omega⟩
  unfold gAt
  have : decide (nI j < 0) = false := decide_eq_false (nI_pos hj)
  rw [this, hc]
  exact hy
/-- a flag: its number, and forms -/
abbrev FG : Type := Nat × List Lin
def fgOK (FL : Nat → List Int → Mem → Prop) (ρ : List Int) (M : Mem) (f : FG) : Prop := ∃ vs, Two (fun L v => liV ρ L = some v) f.2 vs ∧ FL f.1 vs M
theorem fgOK.mono {FL : Nat → List Int → Mem → Prop} {ρ ρ' : List Int} {M : Mem} {f : FG} (h : Pre ρ ρ') (hf : fgOK FL ρ M f) : fgOK FL ρ' M f := by
  obtain ⟨vs, h1, h2⟩ := hf
  exact ⟨vs, Two.mono (fun _ _ q => h.liV q) h1, h2⟩
/-- flags that a write at a place of a row keeps; flags that it makes stronger (x becomes x - 2) -/
def kpP (x a : Nat) (l : List Int32) (i : Nat) (v : Int) : Prop := (a = 635 ∧ (((x = 20 ∨ x = 21) ∧ 2 ≤ i) ∨ (x = 26 ∧ i ≠ 157) ∨ (x = 28 ∧ (i = 12 ∨ 157 ≤ i ∨ (13 ≤ i ∧ i < 157 ∧ (((i - 13) % 6 ≠ 3 ∧ (i - 13) % 6 ≠ 5) ∨ ((i - 13) % 6 = 3 ∧ 1 ≤ v) ∨ ((i - 13) % 6 = 5 ∧ (v ≤ 0 ∨ ∃ y : Int32, gNth l (i - 2) = some y ∧ 1 ≤ y.toInt)))))))) ∨ (((a = 654 ∧ (x = 44 ∨ x = 46)) ∨ (a = 655 ∧ (x = 48 ∨ x = 50))) ∧ ∃ y : Int32, gNth l i = some y ∧ v ≤ y.toInt) ∨ (a = 655 ∧ x = 64 ∧ 1 ≤ v) ∨ (a = 650 ∧ (x = 40 ∨ x = 42) ∧ ∃ y : Int32, gNth l i = some y ∧ y.toInt ≤ v)
def upP (x a : Nat) (l : List Int32) (i : Nat) (v : Int) : Prop := (((a = 654 ∧ x = 46) ∨ (a = 655 ∧ x = 50)) ∧ ∃ y : Int32, gNth l i = some y ∧ v < y.toInt) ∨ (a = 650 ∧ x = 42 ∧ ∃ y : Int32, gNth l i = some y ∧ y.toInt < v)
/-- flags that a write of a field keeps: 34 (the walkers): the lone walker's cell; no walkers -/
def kfP (x a c k : Nat) (w : Value) : Prop := x = 34 ∧ ((c = 8 ∧ k = 0 ∧ a = 137) ∨ (c = 1 ∧ k = 15 ∧ w = .int 0))
section MEM
variable (aT : List Nat) (gT : List CT) (gU : List (Option Nat)) (dep : Nat → Md) (FL : Nat → List Int → Mem → Prop)
noncomputable def rsG (gr : List Nat) : RS → Option Nat
  | .inl a => gNth aT a
  | .inr s => gNth gr s
def prOK (π : List Nat) (gr : List Nat) : Prop := π.length = gr.length ∧ ∀ s g, gNth gr s = some g → ∃ a, gNth π s = some a ∧ gNth aT a = some g
/-- the one cell of a group is that -/
def uOK : Prop := ∀ a g u, gNth aT a = some g → gNth gU g = some (some u) → a = u
def depOK : Prop := (∀ x vs md M M', Frm aT md M M' → (∀ q ∈ md, q ∉ dep x) → FL x vs M → FL x vs M') ∧ (∀ x vs M a t l (i : Nat) (v : Int32), kpP x a l i v.toInt → gNth M a = some (.inl (t, .inl l)) → FL x vs M → FL x vs (gPut M a (.inl (t, .inl (gPut l i v))))) ∧ (∀ x vs M a t l (i : Nat) (v : Int32), upP x a l i v.toInt → gNth M a = some (.inl (t, .inl l)) → FL x vs M → FL (x - 2) vs (gPut M a (.inl (t, .inl (gPut l i v))))) ∧ (∀ M t l (i : Nat) (y x : Int32), FL 28 [] M → gNth M 635 = some (.inl (t, .inl l)) → 13 ≤ i → i < 157 → (i - 13) % 6 = 3 → gNth l (i + 2) = some y → 1 ≤ y.toInt → gNth l i = some x → 1 ≤ x.toInt) ∧ (∀ M t l (i : Nat) (x : Int32), FL 64 [(i : Int)] M → gNth M 655 = some (.inl (t, .inl l)) → gNth l i = some x → 1 ≤ x.toInt) ∧ ∀ x vs M a c k us (w : Value), kfP x a c k w → gNth M a = some (.inr (c, us)) → FL x vs M → FL x vs (gPut M a (.inr (c, gPut us k w)))
variable {aT gT gU dep FL}
theorem rsG_V {π gr : List Nat} (hp : prOK aT π gr) {R : RS} {g : Nat} (h : rsG aT gr R = some g) : ∃ a, rsV π R = some a ∧ gNth aT a = some g := by
  rcases R with a | s
  · exact ⟨a, rfl, h⟩
  · exact hp.2 s g h
theorem prOK.push {π gr : List Nat} (hp : prOK aT π gr) {a g : Nat} (h : gNth aT a = some g) : prOK aT (π ++ [a]) (gr ++ [g]) := by
  refine ⟨by rw [List.length_append, List.length_append, hp.1]; rfl, fun s g2 hs => ?_⟩
  rw [nth_eq] at hs
  by_cases hi : s < gr.length
  · rw [List.getElem?_append_left hi, ← nth_eq] at hs
    obtain ⟨b, hb, h3⟩ := hp.2 s g2 hs
    exact ⟨b, (Pre.one π a).nth hb, h3⟩
  · rw [List.getElem?_append_right (Nat.le_of_not_lt hi)] at hs
    have h0 : s - gr.length = 0 := by
      have h9 := (List.getElem?_eq_some_iff.mp hs).1
      have : s - gr.length < 1 := h9
      omega
    rw [h0] at hs
    cases hs
    have hi2 : s = π.length := by have := hp.1; omega
    exact ⟨a, by rw [nth_eq, hi2, List.getElem?_append_right (Nat.le_refl _), Nat.sub_self]; rfl, h⟩
variable (aT gT gU dep FL)
/-- a reference to some cell of a group -/
noncomputable def nwR (g : Nat) (gr : List Nat) (k : RS → List Nat → Bool) : Bool := match gNth gU g with
  | some (some u) => k (.inl u) gr
  | _ => k (.inr gr.length) (gr ++ [g])
variable {aT gT gU dep FL}
theorem nwR_V (hU : uOK aT gU) {π gr : List Nat} (hp : prOK aT π gr) {a g : Nat} (ha : gNth aT a = some g) {k : RS → List Nat → Bool} (h : nwR gU g gr k = true) : ∃ R gr' π', Pre π π' ∧ prOK aT π' gr' ∧ rsV π' R = some a ∧ k R gr' = true := by
  unfold nwR at h
  split at h
  · rename_i u hu
    have := hU a g u ha hu
    subst this
    exact ⟨_, _, π, Pre.refl _, hp, rfl, h⟩
  · refine ⟨_, _, π ++ [a], Pre.one _ _, hp.push ha, ?_, h⟩
    show gNth (π ++ [a]) gr.length = some a
    rw [nth_eq, ← hp.1, List.getElem?_append_right (Nat.le_refl _), Nat.sub_self]
    rfl
variable (aT gT FL)
/-- the world: what is known of the memory, of the ints, of the references -/
def Wd (ρ : List Int) (π : List Nat) (hp : List HE) (fl : List FG) (g : List Iv) (gr : List Nat) (fs : List Lin) (M : Mem) : Prop := (∀ e ∈ hp, heOK ρ π M e) ∧ (∀ x ∈ fl, fgOK FL ρ M x) ∧ gOK ρ g ∧ prOK aT π gr ∧ fOK ρ fs ∧ TM aT gT M
variable (gU)
/-- a field is read -/
noncomputable def rdF (R : RS) (ci f : Nat) (hp : List HE) (g : List Iv) (gr : List Nat) (k : AV → List HE → List Iv → List Nat → Bool) : Bool := match rsG aT gr R with
  | none => false
  | some grp => match gNth gT grp with
    | some (.inl (c, fts)) => cond (Nat.beq c ci) (match hpG hp R (.inl f) with
      | some v => k v hp g gr
      | none => match gNth fts f with
        | some (.inl p) => k (.inl (liS g.length)) ((R, .inl f, .inl (liS g.length)) :: hp) (g ++ [p]) gr
        | some (.inr 0) => k (.inr (.inr 1)) hp g gr
        | some (.inr (q + 1)) => cond (Nat.beq (q % 2) 0) (nwR gU (q / 2) gr (fun R2 gr => k (.inr (.inl R2)) ((R, .inl f, .inr (.inl R2)) :: hp) g gr)) false
        | none => false) false
    | _ => false
variable {aT gT gU FL}
theorem Wd.push {ρ : List Int} {π : List Nat} {hp : List HE} {fl : List FG} {g : List Iv} {gr : List Nat} {fs : List Lin} {M : Mem} (h : Wd aT gT FL ρ π hp fl g gr fs M) {x lo hi : Int} (h1 : lo ≤ x) (h2 : x ≤ hi) : Wd aT gT FL (ρ ++ [x]) π hp fl (g ++ [(lo, hi)]) gr fs M :=
  ⟨fun e he => (h.1 e he).mono (Pre.one _ _) (Pre.refl _), fun x hx => (h.2.1 x hx).mono (Pre.one _ _), h.2.2.1.push h1 h2, h.2.2.2.1, (Pre.one _ _).fOK h.2.2.2.2.1, h.2.2.2.2.2⟩
theorem Wd.refs {ρ : List Int} {π π' : List Nat} {hp : List HE} {fl : List FG} {g : List Iv} {gr gr' : List Nat} {fs : List Lin} {M : Mem} (h : Wd aT gT FL ρ π hp fl g gr fs M) (hp2 : Pre π π') (h2 : prOK aT π' gr') : Wd aT gT FL ρ π' hp fl g gr' fs M :=
  ⟨fun e he => (h.1 e he).mono (Pre.refl _) hp2, h.2.1, h.2.2.1, h2, h.2.2.2.2.1, h.2.2.2.2.2⟩
theorem Wd.know {ρ : List Int} {π : List Nat} {hp : List HE} {fl : List FG} {g : List Iv} {gr : List Nat} {fs : List Lin} {M : Mem} (h : Wd aT gT FL ρ π hp fl g gr fs M) {e : HE} (he : heOK ρ π M e) : Wd aT gT FL ρ π (e :: hp) fl g gr fs M :=
  ⟨fun e' h' => by
    rcases List.mem_cons.mp h' with rfl | h'
    · exact he
    · exact h.1 e' h', h.2⟩
theorem he_f {ρ : List Int} {π : List Nat} {M : Mem} {R : RS} {a c k : Nat} {vs : List Value} {v : AV} {w : Value} (h1 : rsV π R = some a) (h2 : gNth M a = some (.inr (c, vs))) (h3 : gNth vs k = some w) (h4 : avOK ρ π v w) : heOK ρ π M (R, .inl k, v) := ⟨a, h1, c, vs, w, h2, h3, h4⟩
theorem he_a {ρ : List Int} {π : List Nat} {M : Mem} {R : RS} {a t i : Nat} {l : List Int32} {L : Lin} {v : AV} {x : Int32} (h1 : rsV π R = some a) (h2 : gNth M a = some (.inl (t, .inl l))) (h3 : liV ρ L = some (i : Int)) (h4 : gNth l i = some x) (h5 : avOK ρ π v (.int x)) : heOK ρ π M (R, .inr L, v) := ⟨a, h1, t, l, i, x, h2, h3, h4, h5⟩
theorem TM.at {M : Mem} (hT : TM aT gT M) {a g : Nat} {t : CT} (h1 : gNth aT a = some g) (h2 : gNth gT g = some t) : ∃ e, gNth M a = some e ∧ ctOK aT t e := hT.2 a g t h1 h2
theorem rdF_V (hU : uOK aT gU) {ρ : List Int} {π : List Nat} {hp : List HE} {fl : List FG} {g : List Iv} {gr : List Nat} {fs : List Lin} {M : Mem} (hW : Wd aT gT FL ρ π hp fl g gr fs M) {R : RS} {ci f : Nat} {k : AV → List HE → List Iv → List Nat → Bool} (h : rdF aT gT gU R ci f hp g gr k = true) : ∃ a vs w v hp' g' gr' ρ' π', rsV π R = some a ∧ gNth M a = some (.inr (ci, vs)) ∧ gNth vs f = some w ∧ Pre ρ ρ' ∧ Pre π π' ∧ avOK ρ' π' v w ∧ Wd aT gT FL ρ' π' hp' fl g' gr' fs M ∧ k v hp' g' gr' = true := by
  unfold rdF at h
  split at h
  · cases h
  · rename_i grp e1
    obtain ⟨a, ha, hag⟩ := rsG_V hW.2.2.2.1 e1
    split at h
    · rename_i c fts e2
      have hq9 := cond_t (α := Nat) h
      clear h
      obtain ⟨hc, h⟩ := hq9
      cases Nat.eq_of_beq_eq_true hc
      obtain ⟨e, he, vs, rfl, hl, hv⟩ := hW.2.2.2.2.2.at hag e2
      split at h
      · rename_i v e3
        obtain ⟨a2, ha2, c2, vs2, w, q1, q2, q3⟩ := hW.1 _ (hpG_V e3)
        cases ha.symm.trans ha2
        cases he.symm.trans q1
        exact ⟨a, vs, w, v, hp, g, gr, ρ, π, ha, he, q2, Pre.refl _, Pre.refl _, q3, hW, h⟩
      · split at h
        · rename_i p e3
          obtain ⟨w, q1, x, rfl, q2, q3⟩ := hv f _ e3
          have hs := push_S hW.2.2.1 x.toInt
          exact ⟨a, vs, .int x, _, _, _, _, ρ ++ [x.toInt], π, ha, he, q1, Pre.one _ _, Pre.refl _, av_i hs, (hW.push q2 q3).know (he_f ha he q1 (av_i hs)), h⟩
        · rename_i e3
          obtain ⟨w, q1, x, rfl⟩ := hv f _ e3
          exact ⟨a, vs, .long x, _, _, _, _, ρ, π, ha, he, q1, Pre.refl _, Pre.refl _, av_l x, hW, h⟩
        · rename_i q e3
          obtain ⟨w, q1, q2⟩ := hv f _ e3
          have hq9 := cond_t (α := Nat) h
          clear h
          obtain ⟨h2, h⟩ := hq9
          have h2 := Nat.eq_of_beq_eq_true h2
          rcases q2 with ⟨b, rfl, hb⟩ | ⟨h3, -⟩
          · obtain ⟨R2, gr', π', p1, p2, p3, h⟩ := nwR_V hU hW.2.2.2.1 hb h
            exact ⟨a, vs, .ref b, _, _, _, _, ρ, π', ha, he, q1, Pre.refl _, p1, av_r p3, (hW.refs p1 p2).know (he_f (rsV.mono p1 ha) he q1 (av_r p3)), h⟩
          · omega
        · cases h
    · cases h
end MEM
